def RX0 : String := "HeaveSongs$Hands"
def TX0 : u_T := fun k => match k with
  | 0 => ("HeaveSongs$Hands", "strength", "[I", true)
  | 1 => ("HeaveSongs$Hands", "tires", "[I", true)
  | 2 => ("HeaveSongs$Hands", "rests", "[I", true)
  | 3 => ("HeaveSongs$Hands", "breaths", "[I", true)
  | 4 => ("HeaveSongs$Hands", "late", "[I", true)
  | 5 => ("HeaveSongs$Hands", "now", "[I", true)
  | 6 => ("HeaveSongs$Hands", "size", "I", false)
  | 7 => ("HeaveSongs$Hands", "crew", "I", false)
  | _ => ("HeaveSongs$Hands", "floor", "I", false)
def tyX0 : Nat → FieldType := fun k => match k with
  | 0 => .array .int
  | 1 => .array .int
  | 2 => .array .int
  | 3 => .array .int
  | 4 => .array .int
  | 5 => .array .int
  | 6 => .int
  | 7 => .int
  | _ => .int
abbrev wsX00 : List Cond := u_ws RX0 TX0 9
theorem nmX0 : ∀ a, a < 9 → ∀ b, b < 9 → a ≠ b → (TX0 a).2.1 ≠ (TX0 b).2.1 := by decide +kernel
theorem tyX0_ok : ∀ k, k < 9 → parseFieldDescriptor (TX0 k).2.2.1 = some (tyX0 k) := by decide +kernel
abbrev cX0_init : ByteArray := prog_2_method_1_code
def yX0_init : MethodName := ⟨RX0, "<init>", "()V"⟩
abbrev cX0_has : ByteArray := prog_2_method_2_code
def yX0_has : MethodName := ⟨RX0, "has", "(I)Z"⟩
abbrev cX0_allSet : ByteArray := prog_2_method_3_code
def yX0_allSet : MethodName := ⟨RX0, "allSet", "()I"⟩
abbrev cX0_add : ByteArray := prog_2_method_4_code
def yX0_add : MethodName := ⟨RX0, "add", "(IIII)Z"⟩
abbrev cX0_restFor : ByteArray := prog_2_method_5_code
def yX0_restFor : MethodName := ⟨RX0, "restFor", "(I[I)V"⟩
abbrev cX0_howManyAtStrength : ByteArray := prog_2_method_6_code
def yX0_howManyAtStrength : MethodName := ⟨RX0, "howManyAtStrength", "()I"⟩
abbrev cX0_mixedInto : ByteArray := prog_2_method_7_code
def yX0_mixedInto : MethodName := ⟨RX0, "mixedInto", "(J)J"⟩
def RX1 : String := "HeaveSongs$Haul"
def TX1 : u_T := fun k => match k with
  | 0 => ("HeaveSongs$Haul", "now", "[I", true)
  | 1 => ("HeaveSongs$Haul", "late", "[I", true)
  | 2 => ("HeaveSongs$Haul", "won", "[I", true)
  | 3 => ("HeaveSongs$Haul", "force", "[I", true)
  | 4 => ("HeaveSongs$Haul", "crewByLate", "[I", true)
  | 5 => ("HeaveSongs$Haul", "crew", "I", false)
  | 6 => ("HeaveSongs$Haul", "floor", "I", false)
  | _ => ("HeaveSongs$Haul", "beats", "I", false)
def tyX1 : Nat → FieldType := fun k => match k with
  | 0 => .array .int
  | 1 => .array .int
  | 2 => .array .int
  | 3 => .array .int
  | 4 => .array .int
  | 5 => .int
  | 6 => .int
  | _ => .int
abbrev wsX10 : List Cond := u_ws RX1 TX1 8
theorem nmX1 : ∀ a, a < 8 → ∀ b, b < 8 → a ≠ b → (TX1 a).2.1 ≠ (TX1 b).2.1 := by decide +kernel
theorem tyX1_ok : ∀ k, k < 8 → parseFieldDescriptor (TX1 k).2.2.1 = some (tyX1 k) := by decide +kernel
abbrev cX1_init : ByteArray := prog_3_method_1_code
def yX1_init : MethodName := ⟨RX1, "<init>", "()V"⟩
abbrev cX1_beginAsTold : ByteArray := prog_3_method_2_code
def yX1_beginAsTold : MethodName := ⟨RX1, "beginAsTold", "(LHeaveSongs$Hands;)V"⟩
abbrev cX1_beginFresh : ByteArray := prog_3_method_3_code
def yX1_beginFresh : MethodName := ⟨RX1, "beginFresh", "(LHeaveSongs$Hands;)V"⟩
abbrev cX1_go : ByteArray := prog_3_method_4_code
def yX1_go : MethodName := ⟨RX1, "go", "(LHeaveSongs$Hands;LHeaveSongs$Song;LHeaveSongs$Task;I)Z"⟩
abbrev cX1_gatherByLate : ByteArray := prog_3_method_5_code
def yX1_gatherByLate : MethodName := ⟨RX1, "gatherByLate", "(I)V"⟩
abbrev cX1_pullersAt : ByteArray := prog_3_method_6_code
def yX1_pullersAt : MethodName := ⟨RX1, "pullersAt", "(LHeaveSongs$Song;I)I"⟩
abbrev cX1_pull : ByteArray := prog_3_method_7_code
def yX1_pull : MethodName := ⟨RX1, "pull", "(LHeaveSongs$Hands;II)I"⟩
abbrev cX1_comesBack : ByteArray := prog_3_method_8_code
def yX1_comesBack : MethodName := ⟨RX1, "comesBack", "(LHeaveSongs$Hands;II)I"⟩
abbrev cX1_isBelowFloor : ByteArray := prog_3_method_9_code
def yX1_isBelowFloor : MethodName := ⟨RX1, "isBelowFloor", "(I)Z"⟩
abbrev cX1_leastNow : ByteArray := prog_3_method_10_code
def yX1_leastNow : MethodName := ⟨RX1, "leastNow", "(I)I"⟩
abbrev cX1_mixedInto : ByteArray := prog_3_method_11_code
def yX1_mixedInto : MethodName := ⟨RX1, "mixedInto", "(J)J"⟩
def RX2 : String := "HeaveSongs$Kin"
def TX2 : u_T := fun k => match k with
  | 0 => ("HeaveSongs$Kin", "cost", "[I", true)
  | 1 => ("HeaveSongs$Kin", "hungTo", "[I", true)
  | _ => ("HeaveSongs$Kin", "isHung", "[Z", true)
def tyX2 : Nat → FieldType := fun k => match k with
  | 0 => .array .int
  | 1 => .array .int
  | _ => .array .boolean
abbrev wsX20 : List Cond := u_ws RX2 TX2 3
theorem nmX2 : ∀ a, a < 3 → ∀ b, b < 3 → a ≠ b → (TX2 a).2.1 ≠ (TX2 b).2.1 := by decide +kernel
theorem tyX2_ok : ∀ k, k < 3 → parseFieldDescriptor (TX2 k).2.2.1 = some (tyX2 k) := by decide +kernel
abbrev cX2_init : ByteArray := prog_4_method_1_code
def yX2_init : MethodName := ⟨RX2, "<init>", "()V"⟩
abbrev cX2_distance : ByteArray := prog_4_method_2_code
def yX2_distance : MethodName := ⟨RX2, "distance", "(LHeaveSongs$Song;LHeaveSongs$Song;)I"⟩
abbrev cX2_changes : ByteArray := prog_4_method_3_code
def yX2_changes : MethodName := ⟨RX2, "changes", "(LHeaveSongs$Row;LHeaveSongs$Row;)I"⟩
abbrev cX2_growTree : ByteArray := prog_4_method_4_code
def yX2_growTree : MethodName := ⟨RX2, "growTree", "(Ljava/util/ArrayList;)I"⟩
abbrev cX2_hangNearest : ByteArray := prog_4_method_5_code
def yX2_hangNearest : MethodName := ⟨RX2, "hangNearest", "(Ljava/util/ArrayList;)I"⟩
def RX3 : String := "HeaveSongs$LateSearch"
def TX3 : u_T := fun k => match k with
  | 0 => ("HeaveSongs$LateSearch", "trial", "LHeaveSongs$Haul;", true)
  | 1 => ("HeaveSongs$LateSearch", "handA", "I", false)
  | 2 => ("HeaveSongs$LateSearch", "handB", "I", false)
  | 3 => ("HeaveSongs$LateSearch", "lateA", "I", false)
  | 4 => ("HeaveSongs$LateSearch", "lateB", "I", false)
  | _ => ("HeaveSongs$LateSearch", "sum", "I", false)
def tyX3 : Nat → FieldType := fun k => match k with
  | 0 => .object "HeaveSongs$Haul"
  | 1 => .int
  | 2 => .int
  | 3 => .int
  | 4 => .int
  | _ => .int
abbrev wsX30 : List Cond := u_ws RX3 TX3 6
theorem nmX3 : ∀ a, a < 6 → ∀ b, b < 6 → a ≠ b → (TX3 a).2.1 ≠ (TX3 b).2.1 := by decide +kernel
theorem tyX3_ok : ∀ k, k < 6 → parseFieldDescriptor (TX3 k).2.2.1 = some (tyX3 k) := by decide +kernel
abbrev cX3_init : ByteArray := prog_5_method_1_code
def yX3_init : MethodName := ⟨RX3, "<init>", "()V"⟩
abbrev cX3_findOne : ByteArray := prog_5_method_2_code
def yX3_findOne : MethodName := ⟨RX3, "findOne", "(LHeaveSongs$Hands;LHeaveSongs$Song;LHeaveSongs$Task;LHeaveSongs$Marks;)V"⟩
abbrev cX3_findTwo : ByteArray := prog_5_method_3_code
def yX3_findTwo : MethodName := ⟨RX3, "findTwo", "(LHeaveSongs$Hands;LHeaveSongs$Song;LHeaveSongs$Task;LHeaveSongs$Marks;)V"⟩
abbrev cX3_tryPair : ByteArray := prog_5_method_4_code
def yX3_tryPair : MethodName := ⟨RX3, "tryPair", "(LHeaveSongs$Hands;LHeaveSongs$Song;LHeaveSongs$Task;LHeaveSongs$Marks;II)V"⟩
abbrev cX3_sumOfTrial : ByteArray := prog_5_method_5_code
def yX3_sumOfTrial : MethodName := ⟨RX3, "sumOfTrial", "(LHeaveSongs$Hands;LHeaveSongs$Song;LHeaveSongs$Task;LHeaveSongs$Marks;)I"⟩
def RX4 : String := "HeaveSongs$LineMaker"
def TX4 : u_T := fun k => match k with
  | 0 => ("HeaveSongs$LineMaker", "waysFrom", "[J", true)
  | 1 => ("HeaveSongs$LineMaker", "wrongFrom", "[I", true)
  | 2 => ("HeaveSongs$LineMaker", "line", "[I", true)
  | 3 => ("HeaveSongs$LineMaker", "size", "I", false)
  | _ => ("HeaveSongs$LineMaker", "linesAhead", "J", false)
def tyX4 : Nat → FieldType := fun k => match k with
  | 0 => .array .long
  | 1 => .array .int
  | 2 => .array .int
  | 3 => .int
  | _ => .long
abbrev wsX40 : List Cond := u_ws RX4 TX4 5
theorem nmX4 : ∀ a, a < 5 → ∀ b, b < 5 → a ≠ b → (TX4 a).2.1 ≠ (TX4 b).2.1 := by decide +kernel
theorem tyX4_ok : ∀ k, k < 5 → parseFieldDescriptor (TX4 k).2.2.1 = some (tyX4 k) := by decide +kernel
abbrev cX4_init : ByteArray := prog_6_method_1_code
def yX4_init : MethodName := ⟨RX4, "<init>", "()V"⟩
abbrev cX4_howMany : ByteArray := prog_6_method_2_code
def yX4_howMany : MethodName := ⟨RX4, "howMany", "(LHeaveSongs$Row;Ljava/util/ArrayList;)J"⟩
abbrev cX4_countWays : ByteArray := prog_6_method_3_code
def yX4_countWays : MethodName := ⟨RX4, "countWays", "(LHeaveSongs$Row;Ljava/util/ArrayList;I)J"⟩
abbrev cX4_fewestWrong : ByteArray := prog_6_method_4_code
def yX4_fewestWrong : MethodName := ⟨RX4, "fewestWrong", "(LHeaveSongs$Row;Ljava/util/ArrayList;)I"⟩
abbrev cX4_leastWrong : ByteArray := prog_6_method_5_code
def yX4_leastWrong : MethodName := ⟨RX4, "leastWrong", "(LHeaveSongs$Row;Ljava/util/ArrayList;I)I"⟩
abbrev cX4_wrongWith : ByteArray := prog_6_method_6_code
def yX4_wrongWith : MethodName := ⟨RX4, "wrongWith", "(LHeaveSongs$Word;LHeaveSongs$Row;I)I"⟩
abbrev cX4_makeLine : ByteArray := prog_6_method_7_code
def yX4_makeLine : MethodName := ⟨RX4, "makeLine", "(LHeaveSongs$Row;Ljava/util/ArrayList;J)V"⟩
abbrev cX4_makeNearLine : ByteArray := prog_6_method_8_code
def yX4_makeNearLine : MethodName := ⟨RX4, "makeNearLine", "(LHeaveSongs$Row;Ljava/util/ArrayList;)V"⟩
abbrev cX4_lay : ByteArray := prog_6_method_9_code
def yX4_lay : MethodName := ⟨RX4, "lay", "(LHeaveSongs$Row;Ljava/util/ArrayList;Z)V"⟩
abbrev cX4_countedWord : ByteArray := prog_6_method_10_code
def yX4_countedWord : MethodName := ⟨RX4, "countedWord", "(LHeaveSongs$Row;Ljava/util/ArrayList;I)I"⟩
abbrev cX4_nearWord : ByteArray := prog_6_method_11_code
def yX4_nearWord : MethodName := ⟨RX4, "nearWord", "(LHeaveSongs$Row;Ljava/util/ArrayList;I)I"⟩
abbrev cX4_wordAt : ByteArray := prog_6_method_12_code
def yX4_wordAt : MethodName := ⟨RX4, "wordAt", "(I)I"⟩
def RX5 : String := "HeaveSongs$Marks"
def TX5 : u_T := fun k => match k with
  | 0 => ("HeaveSongs$Marks", "beat", "[I", true)
  | 1 => ("HeaveSongs$Marks", "read", "[I", true)
  | _ => ("HeaveSongs$Marks", "size", "I", false)
def tyX5 : Nat → FieldType := fun k => match k with
  | 0 => .array .int
  | 1 => .array .int
  | _ => .int
abbrev wsX50 : List Cond := u_ws RX5 TX5 3
theorem nmX5 : ∀ a, a < 3 → ∀ b, b < 3 → a ≠ b → (TX5 a).2.1 ≠ (TX5 b).2.1 := by decide +kernel
theorem tyX5_ok : ∀ k, k < 3 → parseFieldDescriptor (TX5 k).2.2.1 = some (tyX5 k) := by decide +kernel
abbrev cX5_init : ByteArray := prog_7_method_1_code
def yX5_init : MethodName := ⟨RX5, "<init>", "()V"⟩
abbrev cX5_add : ByteArray := prog_7_method_2_code
def yX5_add : MethodName := ⟨RX5, "add", "(II)Z"⟩
abbrev cX5_span : ByteArray := prog_7_method_3_code
def yX5_span : MethodName := ⟨RX5, "span", "()I"⟩
abbrev cX5_differenceTo : ByteArray := prog_7_method_4_code
def yX5_differenceTo : MethodName := ⟨RX5, "differenceTo", "([I)I"⟩
abbrev cX5_mixedInto : ByteArray := prog_7_method_5_code
def yX5_mixedInto : MethodName := ⟨RX5, "mixedInto", "(J)J"⟩
def RX6 : String := "HeaveSongs$Row"
def TX6 : u_T := fun k => match k with
  | 0 => ("HeaveSongs$Row", "beats", "[I", true)
  | _ => ("HeaveSongs$Row", "size", "I", false)
def tyX6 : Nat → FieldType := fun k => match k with
  | 0 => .array .int
  | _ => .int
abbrev wsX60 : List Cond := u_ws RX6 TX6 2
theorem nmX6 : ∀ a, a < 2 → ∀ b, b < 2 → a ≠ b → (TX6 a).2.1 ≠ (TX6 b).2.1 := by decide +kernel
theorem tyX6_ok : ∀ k, k < 2 → parseFieldDescriptor (TX6 k).2.2.1 = some (tyX6 k) := by decide +kernel
abbrev cX6_init : ByteArray := prog_8_method_1_code
def yX6_init : MethodName := ⟨RX6, "<init>", "()V"⟩
abbrev cX6_add : ByteArray := prog_8_method_2_code
def yX6_add : MethodName := ⟨RX6, "add", "(I)Z"⟩
abbrev cX6_take : ByteArray := prog_8_method_3_code
def yX6_take : MethodName := ⟨RX6, "take", "(LHeaveSongs$Row;)V"⟩
abbrev cX6_mixedInto : ByteArray := prog_8_method_4_code
def yX6_mixedInto : MethodName := ⟨RX6, "mixedInto", "(J)J"⟩
def RX7 : String := "HeaveSongs$Song"
def TX7 : u_T := fun k => match k with
  | 0 => ("HeaveSongs$Song", "verse", "LHeaveSongs$Row;", true)
  | _ => ("HeaveSongs$Song", "refrain", "LHeaveSongs$Row;", true)
def tyX7 : Nat → FieldType := fun k => match k with
  | 0 => .object "HeaveSongs$Row"
  | _ => .object "HeaveSongs$Row"
abbrev wsX70 : List Cond := u_ws RX7 TX7 2
theorem nmX7 : ∀ a, a < 2 → ∀ b, b < 2 → a ≠ b → (TX7 a).2.1 ≠ (TX7 b).2.1 := by decide +kernel
theorem tyX7_ok : ∀ k, k < 2 → parseFieldDescriptor (TX7 k).2.2.1 = some (tyX7 k) := by decide +kernel
abbrev cX7_init : ByteArray := prog_9_method_1_code
def yX7_init : MethodName := ⟨RX7, "<init>", "()V"⟩
abbrev cX7_sungAt : ByteArray := prog_9_method_2_code
def yX7_sungAt : MethodName := ⟨RX7, "sungAt", "(I)I"⟩
abbrev cX7_mixedInto : ByteArray := prog_9_method_3_code
def yX7_mixedInto : MethodName := ⟨RX7, "mixedInto", "(J)J"⟩
def RX8 : String := "HeaveSongs$Task"
def TX8 : u_T := fun k => match k with
  | 0 => ("HeaveSongs$Task", "goal", "I", true)
  | 1 => ("HeaveSongs$Task", "load", "I", true)
  | _ => ("HeaveSongs$Task", "slip", "I", true)
def tyX8 : Nat → FieldType := fun k => match k with
  | 0 => .int
  | 1 => .int
  | _ => .int
abbrev wsX80 : List Cond := u_ws RX8 TX8 3
theorem nmX8 : ∀ a, a < 3 → ∀ b, b < 3 → a ≠ b → (TX8 a).2.1 ≠ (TX8 b).2.1 := by decide +kernel
theorem tyX8_ok : ∀ k, k < 3 → parseFieldDescriptor (TX8 k).2.2.1 = some (tyX8 k) := by decide +kernel
abbrev cX8_init : ByteArray := prog_10_method_1_code
def yX8_init : MethodName := ⟨RX8, "<init>", "(III)V"⟩
abbrev cX8_wonBehind : ByteArray := prog_10_method_2_code
def yX8_wonBehind : MethodName := ⟨RX8, "wonBehind", "(II)I"⟩
abbrev cX8_mixedInto : ByteArray := prog_10_method_3_code
def yX8_mixedInto : MethodName := ⟨RX8, "mixedInto", "(J)J"⟩
def RX9 : String := "HeaveSongs$TaskSearch"
def TX9 : u_T := fun k => match k with
  | 0 => ("HeaveSongs$TaskSearch", "trial", "LHeaveSongs$Haul;", true)
  | 1 => ("HeaveSongs$TaskSearch", "nowAhead", "[[I", true)
  | 2 => ("HeaveSongs$TaskSearch", "tried", "[I", true)
  | 3 => ("HeaveSongs$TaskSearch", "planSongs", "[I", true)
  | 4 => ("HeaveSongs$TaskSearch", "planBeats", "I", false)
  | 5 => ("HeaveSongs$TaskSearch", "planKnown", "Z", false)
  | 6 => ("HeaveSongs$TaskSearch", "crewSet", "I", false)
  | 7 => ("HeaveSongs$TaskSearch", "crewBeats", "I", false)
  | _ => ("HeaveSongs$TaskSearch", "crewLeastNow", "I", false)
def tyX9 : Nat → FieldType := fun k => match k with
  | 0 => .object "HeaveSongs$Haul"
  | 1 => .array (.array .int)
  | 2 => .array .int
  | 3 => .array .int
  | 4 => .int
  | 5 => .boolean
  | 6 => .int
  | 7 => .int
  | _ => .int
abbrev wsX90 : List Cond := u_ws RX9 TX9 9
theorem nmX9 : ∀ a, a < 9 → ∀ b, b < 9 → a ≠ b → (TX9 a).2.1 ≠ (TX9 b).2.1 := by decide +kernel
theorem tyX9_ok : ∀ k, k < 9 → parseFieldDescriptor (TX9 k).2.2.1 = some (tyX9 k) := by decide +kernel
abbrev cX9_init : ByteArray := prog_11_method_1_code
def yX9_init : MethodName := ⟨RX9, "<init>", "()V"⟩
abbrev cX9_findPlan : ByteArray := prog_11_method_2_code
def yX9_findPlan : MethodName := ⟨RX9, "findPlan", "(Ljava/util/ArrayList;LHeaveSongs$Hands;Ljava/util/ArrayList;I)V"⟩
abbrev cX9_tryFrom : ByteArray := prog_11_method_3_code
def yX9_tryFrom : MethodName := ⟨RX9, "tryFrom", "(Ljava/util/ArrayList;LHeaveSongs$Hands;Ljava/util/ArrayList;III)V"⟩
abbrev cX9_findCrew : ByteArray := prog_11_method_4_code
def yX9_findCrew : MethodName := ⟨RX9, "findCrew", "(LHeaveSongs$Hands;LHeaveSongs$Song;LHeaveSongs$Task;I)V"⟩
abbrev cX9_tryCrew : ByteArray := prog_11_method_5_code
def yX9_tryCrew : MethodName := ⟨RX9, "tryCrew", "(LHeaveSongs$Hands;LHeaveSongs$Song;LHeaveSongs$Task;I)V"⟩
def RX10 : String := "HeaveSongs$Word"
def TX10 : u_T := fun k => match k with
  | 0 => ("HeaveSongs$Word", "sounds", "I", true)
  | _ => ("HeaveSongs$Word", "bits", "I", true)
def tyX10 : Nat → FieldType := fun k => match k with
  | 0 => .int
  | _ => .int
abbrev wsX100 : List Cond := u_ws RX10 TX10 2
theorem nmX10 : ∀ a, a < 2 → ∀ b, b < 2 → a ≠ b → (TX10 a).2.1 ≠ (TX10 b).2.1 := by decide +kernel
theorem tyX10_ok : ∀ k, k < 2 → parseFieldDescriptor (TX10 k).2.2.1 = some (tyX10 k) := by decide +kernel
abbrev cX10_init : ByteArray := prog_12_method_1_code
def yX10_init : MethodName := ⟨RX10, "<init>", "(II)V"⟩
abbrev cX10_isStrong : ByteArray := prog_12_method_2_code
def yX10_isStrong : MethodName := ⟨RX10, "isStrong", "(I)Z"⟩
abbrev cX10_wrongIfSungFrom : ByteArray := prog_12_method_3_code
def yX10_wrongIfSungFrom : MethodName := ⟨RX10, "wrongIfSungFrom", "(LHeaveSongs$Row;I)I"⟩
abbrev cX10_mixedInto : ByteArray := prog_12_method_4_code
def yX10_mixedInto : MethodName := ⟨RX10, "mixedInto", "(J)J"⟩
def RX11 : String := "HeaveSongs"
def TX11 : u_T := fun k => match k with
  | 0 => ("HeaveSongs", "row", "LHeaveSongs$Row;", true)
  | 1 => ("HeaveSongs", "songs", "Ljava/util/ArrayList;", true)
  | 2 => ("HeaveSongs", "hands", "LHeaveSongs$Hands;", true)
  | 3 => ("HeaveSongs", "latest", "LHeaveSongs$Haul;", true)
  | 4 => ("HeaveSongs", "tasks", "Ljava/util/ArrayList;", true)
  | 5 => ("HeaveSongs", "pauseBetween", "I", false)
  | 6 => ("HeaveSongs", "taskSearch", "LHeaveSongs$TaskSearch;", true)
  | 7 => ("HeaveSongs", "words", "Ljava/util/ArrayList;", true)
  | 8 => ("HeaveSongs", "lineMaker", "LHeaveSongs$LineMaker;", true)
  | 9 => ("HeaveSongs", "marks", "LHeaveSongs$Marks;", true)
  | 10 => ("HeaveSongs", "lateSearch", "LHeaveSongs$LateSearch;", true)
  | _ => ("HeaveSongs", "kin", "LHeaveSongs$Kin;", true)
def tyX11 : Nat → FieldType := fun k => match k with
  | 0 => .object "HeaveSongs$Row"
  | 1 => .object "java/util/ArrayList"
  | 2 => .object "HeaveSongs$Hands"
  | 3 => .object "HeaveSongs$Haul"
  | 4 => .object "java/util/ArrayList"
  | 5 => .int
  | 6 => .object "HeaveSongs$TaskSearch"
  | 7 => .object "java/util/ArrayList"
  | 8 => .object "HeaveSongs$LineMaker"
  | 9 => .object "HeaveSongs$Marks"
  | 10 => .object "HeaveSongs$LateSearch"
  | _ => .object "HeaveSongs$Kin"
abbrev wsX110 : List Cond := u_ws RX11 TX11 12
theorem nmX11 : ∀ a, a < 12 → ∀ b, b < 12 → a ≠ b → (TX11 a).2.1 ≠ (TX11 b).2.1 := by decide +kernel
theorem tyX11_ok : ∀ k, k < 12 → parseFieldDescriptor (TX11 k).2.2.1 = some (tyX11 k) := by decide +kernel
abbrev cX11_init : ByteArray := prog_1_method_1_code
def yX11_init : MethodName := ⟨RX11, "<init>", "()V"⟩
abbrev cX11_beat : ByteArray := prog_1_method_2_code
def yX11_beat : MethodName := ⟨RX11, "beat", "(I)I"⟩
abbrev cX11_rest : ByteArray := prog_1_method_3_code
def yX11_rest : MethodName := ⟨RX11, "rest", "()I"⟩
abbrev cX11_song : ByteArray := prog_1_method_4_code
def yX11_song : MethodName := ⟨RX11, "song", "()I"⟩
abbrev cX11_refrain : ByteArray := prog_1_method_5_code
def yX11_refrain : MethodName := ⟨RX11, "refrain", "(I)I"⟩
abbrev cX11_beatAt : ByteArray := prog_1_method_6_code
def yX11_beatAt : MethodName := ⟨RX11, "beatAt", "(II)I"⟩
abbrev cX11_hand : ByteArray := prog_1_method_7_code
def yX11_hand : MethodName := ⟨RX11, "hand", "(IIII)I"⟩
abbrev cX11_late : ByteArray := prog_1_method_8_code
def yX11_late : MethodName := ⟨RX11, "late", "(II)I"⟩
abbrev cX11_crew : ByteArray := prog_1_method_9_code
def yX11_crew : MethodName := ⟨RX11, "crew", "(I)I"⟩
abbrev cX11_floor : ByteArray := prog_1_method_10_code
def yX11_floor : MethodName := ⟨RX11, "floor", "(I)I"⟩
abbrev cX11_now : ByteArray := prog_1_method_11_code
def yX11_now : MethodName := ⟨RX11, "now", "(I)I"⟩
abbrev cX11_pause : ByteArray := prog_1_method_12_code
def yX11_pause : MethodName := ⟨RX11, "pause", "(I)I"⟩
abbrev cX11_haul : ByteArray := prog_1_method_13_code
def yX11_haul : MethodName := ⟨RX11, "haul", "(IIII)I"⟩
abbrev cX11_won : ByteArray := prog_1_method_14_code
def yX11_won : MethodName := ⟨RX11, "won", "(I)I"⟩
abbrev cX11_force : ByteArray := prog_1_method_15_code
def yX11_force : MethodName := ⟨RX11, "force", "(I)I"⟩
abbrev cX11_task : ByteArray := prog_1_method_16_code
def yX11_task : MethodName := ⟨RX11, "task", "(III)I"⟩
abbrev cX11_between : ByteArray := prog_1_method_17_code
def yX11_between : MethodName := ⟨RX11, "between", "(I)I"⟩
abbrev cX11_plan : ByteArray := prog_1_method_18_code
def yX11_plan : MethodName := ⟨RX11, "plan", "()I"⟩
abbrev cX11_planAt : ByteArray := prog_1_method_19_code
def yX11_planAt : MethodName := ⟨RX11, "planAt", "(I)I"⟩
abbrev cX11_best : ByteArray := prog_1_method_20_code
def yX11_best : MethodName := ⟨RX11, "best", "(IIII)I"⟩
abbrev cX11_word : ByteArray := prog_1_method_21_code
def yX11_word : MethodName := ⟨RX11, "word", "(II)I"⟩
abbrev cX11_lines : ByteArray := prog_1_method_22_code
def yX11_lines : MethodName := ⟨RX11, "lines", "(I)J"⟩
abbrev cX11_lineAt : ByteArray := prog_1_method_23_code
def yX11_lineAt : MethodName := ⟨RX11, "lineAt", "(IJI)I"⟩
abbrev cX11_near : ByteArray := prog_1_method_24_code
def yX11_near : MethodName := ⟨RX11, "near", "(I)I"⟩
abbrev cX11_nearAt : ByteArray := prog_1_method_25_code
def yX11_nearAt : MethodName := ⟨RX11, "nearAt", "(II)I"⟩
abbrev cX11_mark : ByteArray := prog_1_method_26_code
def yX11_mark : MethodName := ⟨RX11, "mark", "(II)I"⟩
abbrev cX11_wipe : ByteArray := prog_1_method_27_code
def yX11_wipe : MethodName := ⟨RX11, "wipe", "()I"⟩
abbrev cX11_who : ByteArray := prog_1_method_28_code
def yX11_who : MethodName := ⟨RX11, "who", "(IIII)I"⟩
abbrev cX11_two : ByteArray := prog_1_method_29_code
def yX11_two : MethodName := ⟨RX11, "two", "(IIII)I"⟩
abbrev cX11_apart : ByteArray := prog_1_method_30_code
def yX11_apart : MethodName := ⟨RX11, "apart", "(II)I"⟩
abbrev cX11_hangs : ByteArray := prog_1_method_31_code
def yX11_hangs : MethodName := ⟨RX11, "hangs", "(I)I"⟩
abbrev cX11_tree : ByteArray := prog_1_method_32_code
def yX11_tree : MethodName := ⟨RX11, "tree", "()I"⟩
abbrev cX11_count : ByteArray := prog_1_method_33_code
def yX11_count : MethodName := ⟨RX11, "count", "(I)I"⟩
abbrev cX11_digest : ByteArray := prog_1_method_34_code
def yX11_digest : MethodName := ⟨RX11, "digest", "()J"⟩
abbrev cX11_within : ByteArray := prog_1_method_35_code
def yX11_within : MethodName := ⟨RX11, "within", "(III)Z"⟩
abbrev cX11_isSilent : ByteArray := prog_1_method_36_code
def yX11_isSilent : MethodName := ⟨RX11, "isSilent", "(I)Z"⟩
abbrev cX11_isIn : ByteArray := prog_1_method_37_code
def yX11_isIn : MethodName := ⟨RX11, "isIn", "(II)Z"⟩
abbrev cX11_isWeight : ByteArray := prog_1_method_38_code
def yX11_isWeight : MethodName := ⟨RX11, "isWeight", "(II)Z"⟩
abbrev cX11_isTask : ByteArray := prog_1_method_39_code
def yX11_isTask : MethodName := ⟨RX11, "isTask", "(III)Z"⟩
abbrev cX11_copy : ByteArray := prog_1_method_40_code
def yX11_copy : MethodName := ⟨RX11, "copy", "([I[I)V"⟩
abbrev cX11_songOf : ByteArray := prog_1_method_41_code
def yX11_songOf : MethodName := ⟨RX11, "songOf", "(I)LHeaveSongs$Song;"⟩
abbrev cX11_ofLatest : ByteArray := prog_1_method_42_code
def yX11_ofLatest : MethodName := ⟨RX11, "ofLatest", "([II)I"⟩
def RX12 : String := "HeaveSongsModel"
def TX12 : u_T := fun k => match k with
  | 0 => ("HeaveSongsModel", "songs", "I", false)
  | 1 => ("HeaveSongsModel", "verseSize", "[I", true)
  | 2 => ("HeaveSongsModel", "refrainSize", "[I", true)
  | 3 => ("HeaveSongsModel", "verse", "[I", true)
  | 4 => ("HeaveSongsModel", "refrain", "[I", true)
  | 5 => ("HeaveSongsModel", "rowSize", "I", false)
  | 6 => ("HeaveSongsModel", "row", "[I", true)
  | 7 => ("HeaveSongsModel", "hands", "I", false)
  | 8 => ("HeaveSongsModel", "strength", "[I", true)
  | 9 => ("HeaveSongsModel", "tires", "[I", true)
  | 10 => ("HeaveSongsModel", "rests", "[I", true)
  | 11 => ("HeaveSongsModel", "breaths", "[I", true)
  | 12 => ("HeaveSongsModel", "lates", "[I", true)
  | 13 => ("HeaveSongsModel", "nows", "[I", true)
  | 14 => ("HeaveSongsModel", "crew", "I", false)
  | 15 => ("HeaveSongsModel", "floor", "I", false)
  | 16 => ("HeaveSongsModel", "lastBeats", "I", false)
  | 17 => ("HeaveSongsModel", "wonAt", "[I", true)
  | 18 => ("HeaveSongsModel", "forceAt", "[I", true)
  | 19 => ("HeaveSongsModel", "behind", "[I", true)
  | 20 => ("HeaveSongsModel", "won", "I", false)
  | 21 => ("HeaveSongsModel", "force", "I", false)
  | 22 => ("HeaveSongsModel", "tasks", "I", false)
  | 23 => ("HeaveSongsModel", "goals", "[I", true)
  | 24 => ("HeaveSongsModel", "loads", "[I", true)
  | 25 => ("HeaveSongsModel", "slips", "[I", true)
  | 26 => ("HeaveSongsModel", "between", "I", false)
  | 27 => ("HeaveSongsModel", "way", "[I", true)
  | 28 => ("HeaveSongsModel", "bestWay", "[I", true)
  | 29 => ("HeaveSongsModel", "beatsTo", "[I", true)
  | 30 => ("HeaveSongsModel", "words", "I", false)
  | 31 => ("HeaveSongsModel", "sounds", "[I", true)
  | 32 => ("HeaveSongsModel", "strong", "[I", true)
  | 33 => ("HeaveSongsModel", "linesFrom", "[J", true)
  | 34 => ("HeaveSongsModel", "wrongFrom", "[I", true)
  | 35 => ("HeaveSongsModel", "marks", "I", false)
  | 36 => ("HeaveSongsModel", "markBeat", "[I", true)
  | 37 => ("HeaveSongsModel", "markWon", "[I", true)
  | 38 => ("HeaveSongsModel", "draftWon", "[I", true)
  | 39 => ("HeaveSongsModel", "bestA", "I", false)
  | 40 => ("HeaveSongsModel", "bestB", "I", false)
  | 41 => ("HeaveSongsModel", "bestLateA", "I", false)
  | 42 => ("HeaveSongsModel", "bestLateB", "I", false)
  | 43 => ("HeaveSongsModel", "far", "[I", true)
  | 44 => ("HeaveSongsModel", "hung", "[I", true)
  | 45 => ("HeaveSongsModel", "treeSum", "I", false)
  | _ => ("HeaveSongsModel", "hash", "J", false)
def tyX12 : Nat → FieldType := fun k => match k with
  | 0 => .int
  | 1 => .array .int
  | 2 => .array .int
  | 3 => .array .int
  | 4 => .array .int
  | 5 => .int
  | 6 => .array .int
  | 7 => .int
  | 8 => .array .int
  | 9 => .array .int
  | 10 => .array .int
  | 11 => .array .int
  | 12 => .array .int
  | 13 => .array .int
  | 14 => .int
  | 15 => .int
  | 16 => .int
  | 17 => .array .int
  | 18 => .array .int
  | 19 => .array .int
  | 20 => .int
  | 21 => .int
  | 22 => .int
  | 23 => .array .int
  | 24 => .array .int
  | 25 => .array .int
  | 26 => .int
  | 27 => .array .int
  | 28 => .array .int
  | 29 => .array .int
  | 30 => .int
  | 31 => .array .int
  | 32 => .array .int
  | 33 => .array .long
  | 34 => .array .int
  | 35 => .int
  | 36 => .array .int
  | 37 => .array .int
  | 38 => .array .int
  | 39 => .int
  | 40 => .int
  | 41 => .int
  | 42 => .int
  | 43 => .array .int
  | 44 => .array .int
  | 45 => .int
  | _ => .long
abbrev wsX120 : List Cond := u_ws RX12 TX12 47
theorem nmX12 : ∀ a, a < 47 → ∀ b, b < 47 → a ≠ b → (TX12 a).2.1 ≠ (TX12 b).2.1 := by decide +kernel
theorem tyX12_ok : ∀ k, k < 47 → parseFieldDescriptor (TX12 k).2.2.1 = some (tyX12 k) := by decide +kernel
abbrev cX12_init : ByteArray := prog_14_method_1_code
def yX12_init : MethodName := ⟨RX12, "<init>", "()V"⟩
abbrev cX12_in : ByteArray := prog_14_method_3_code
def yX12_in : MethodName := ⟨RX12, "in", "(JJJ)Z"⟩
abbrev cX12_bit : ByteArray := prog_14_method_4_code
def yX12_bit : MethodName := ⟨RX12, "bit", "(Z)I"⟩
abbrev cX12_beat : ByteArray := prog_14_method_5_code
def yX12_beat : MethodName := ⟨RX12, "beat", "(I)I"⟩
abbrev cX12_rest : ByteArray := prog_14_method_6_code
def yX12_rest : MethodName := ⟨RX12, "rest", "()I"⟩
abbrev cX12_song : ByteArray := prog_14_method_7_code
def yX12_song : MethodName := ⟨RX12, "song", "()I"⟩
abbrev cX12_noSong : ByteArray := prog_14_method_8_code
def yX12_noSong : MethodName := ⟨RX12, "noSong", "(I)Z"⟩
abbrev cX12_refrain : ByteArray := prog_14_method_9_code
def yX12_refrain : MethodName := ⟨RX12, "refrain", "(I)I"⟩
abbrev cX12_beatOf : ByteArray := prog_14_method_10_code
def yX12_beatOf : MethodName := ⟨RX12, "beatOf", "(II)I"⟩
abbrev cX12_beatAt : ByteArray := prog_14_method_11_code
def yX12_beatAt : MethodName := ⟨RX12, "beatAt", "(II)I"⟩
abbrev cX12_noHand : ByteArray := prog_14_method_12_code
def yX12_noHand : MethodName := ⟨RX12, "noHand", "(I)Z"⟩
abbrev cX12_hand : ByteArray := prog_14_method_13_code
def yX12_hand : MethodName := ⟨RX12, "hand", "(IIII)I"⟩
abbrev cX12_late : ByteArray := prog_14_method_14_code
def yX12_late : MethodName := ⟨RX12, "late", "(II)I"⟩
abbrev cX12_crew : ByteArray := prog_14_method_15_code
def yX12_crew : MethodName := ⟨RX12, "crew", "(I)I"⟩
abbrev cX12_floor : ByteArray := prog_14_method_16_code
def yX12_floor : MethodName := ⟨RX12, "floor", "(I)I"⟩
abbrev cX12_now : ByteArray := prog_14_method_17_code
def yX12_now : MethodName := ⟨RX12, "now", "(I)I"⟩
abbrev cX12_restAll : ByteArray := prog_14_method_18_code
def yX12_restAll : MethodName := ⟨RX12, "restAll", "(II)V"⟩
abbrev cX12_pause : ByteArray := prog_14_method_19_code
def yX12_pause : MethodName := ⟨RX12, "pause", "(I)I"⟩
abbrev cX12_step : ByteArray := prog_14_method_20_code
def yX12_step : MethodName := ⟨RX12, "step", "(IIIIII)V"⟩
abbrev cX12_isAbove : ByteArray := prog_14_method_21_code
def yX12_isAbove : MethodName := ⟨RX12, "isAbove", "(II)Z"⟩
abbrev cX12_work : ByteArray := prog_14_method_22_code
def yX12_work : MethodName := ⟨RX12, "work", "(IIIIIIZ)I"⟩
abbrev cX12_isTask : ByteArray := prog_14_method_23_code
def yX12_isTask : MethodName := ⟨RX12, "isTask", "(III)Z"⟩
abbrev cX12_haul : ByteArray := prog_14_method_24_code
def yX12_haul : MethodName := ⟨RX12, "haul", "(IIII)I"⟩
abbrev cX12_won : ByteArray := prog_14_method_25_code
def yX12_won : MethodName := ⟨RX12, "won", "(I)I"⟩
abbrev cX12_force : ByteArray := prog_14_method_26_code
def yX12_force : MethodName := ⟨RX12, "force", "(I)I"⟩
abbrev cX12_task : ByteArray := prog_14_method_27_code
def yX12_task : MethodName := ⟨RX12, "task", "(III)I"⟩
abbrev cX12_between : ByteArray := prog_14_method_28_code
def yX12_between : MethodName := ⟨RX12, "between", "(I)I"⟩
abbrev cX12_carry : ByteArray := prog_14_method_29_code
def yX12_carry : MethodName := ⟨RX12, "carry", "(II)V"⟩
abbrev cX12_go : ByteArray := prog_14_method_30_code
def yX12_go : MethodName := ⟨RX12, "go", "(II)Z"⟩
abbrev cX12_findPlan : ByteArray := prog_14_method_31_code
def yX12_findPlan : MethodName := ⟨RX12, "findPlan", "()I"⟩
abbrev cX12_plan : ByteArray := prog_14_method_32_code
def yX12_plan : MethodName := ⟨RX12, "plan", "()I"⟩
abbrev cX12_planAt : ByteArray := prog_14_method_33_code
def yX12_planAt : MethodName := ⟨RX12, "planAt", "(I)I"⟩
abbrev cX12_ones : ByteArray := prog_14_method_34_code
def yX12_ones : MethodName := ⟨RX12, "ones", "(I)I"⟩
abbrev cX12_leastNow : ByteArray := prog_14_method_35_code
def yX12_leastNow : MethodName := ⟨RX12, "leastNow", "(I)I"⟩
abbrev cX12_best : ByteArray := prog_14_method_36_code
def yX12_best : MethodName := ⟨RX12, "best", "(IIII)I"⟩
abbrev cX12_word : ByteArray := prog_14_method_37_code
def yX12_word : MethodName := ⟨RX12, "word", "(II)I"⟩
abbrev cX12_isSung : ByteArray := prog_14_method_38_code
def yX12_isSung : MethodName := ⟨RX12, "isSung", "(I)Z"⟩
abbrev cX12_sungFrom : ByteArray := prog_14_method_39_code
def yX12_sungFrom : MethodName := ⟨RX12, "sungFrom", "(II)I"⟩
abbrev cX12_wrongOf : ByteArray := prog_14_method_40_code
def yX12_wrongOf : MethodName := ⟨RX12, "wrongOf", "(III)I"⟩
abbrev cX12_findLines : ByteArray := prog_14_method_41_code
def yX12_findLines : MethodName := ⟨RX12, "findLines", "(I)V"⟩
abbrev cX12_lines : ByteArray := prog_14_method_42_code
def yX12_lines : MethodName := ⟨RX12, "lines", "(I)J"⟩
abbrev cX12_lineAt : ByteArray := prog_14_method_43_code
def yX12_lineAt : MethodName := ⟨RX12, "lineAt", "(IJI)I"⟩
abbrev cX12_near : ByteArray := prog_14_method_44_code
def yX12_near : MethodName := ⟨RX12, "near", "(I)I"⟩
abbrev cX12_nearAt : ByteArray := prog_14_method_45_code
def yX12_nearAt : MethodName := ⟨RX12, "nearAt", "(II)I"⟩
abbrev cX12_mark : ByteArray := prog_14_method_46_code
def yX12_mark : MethodName := ⟨RX12, "mark", "(II)I"⟩
abbrev cX12_wipe : ByteArray := prog_14_method_47_code
def yX12_wipe : MethodName := ⟨RX12, "wipe", "()I"⟩
abbrev cX12_sumOf : ByteArray := prog_14_method_48_code
def yX12_sumOf : MethodName := ⟨RX12, "sumOf", "(IIIIIII)I"⟩
abbrev cX12_isOf : ByteArray := prog_14_method_49_code
def yX12_isOf : MethodName := ⟨RX12, "isOf", "(I)Z"⟩
abbrev cX12_who : ByteArray := prog_14_method_50_code
def yX12_who : MethodName := ⟨RX12, "who", "(IIII)I"⟩
abbrev cX12_tryTwo : ByteArray := prog_14_method_51_code
def yX12_tryTwo : MethodName := ⟨RX12, "tryTwo", "(IIIIII)I"⟩
abbrev cX12_two : ByteArray := prog_14_method_52_code
def yX12_two : MethodName := ⟨RX12, "two", "(IIII)I"⟩
abbrev cX12_apartBy : ByteArray := prog_14_method_53_code
def yX12_apartBy : MethodName := ⟨RX12, "apartBy", "(ZII)I"⟩
abbrev cX12_apartOf : ByteArray := prog_14_method_54_code
def yX12_apartOf : MethodName := ⟨RX12, "apartOf", "(II)I"⟩
abbrev cX12_apart : ByteArray := prog_14_method_55_code
def yX12_apart : MethodName := ⟨RX12, "apart", "(II)I"⟩
abbrev cX12_findTree : ByteArray := prog_14_method_56_code
def yX12_findTree : MethodName := ⟨RX12, "findTree", "()V"⟩
abbrev cX12_hangs : ByteArray := prog_14_method_57_code
def yX12_hangs : MethodName := ⟨RX12, "hangs", "(I)I"⟩
abbrev cX12_tree : ByteArray := prog_14_method_58_code
def yX12_tree : MethodName := ⟨RX12, "tree", "()I"⟩
abbrev cX12_count : ByteArray := prog_14_method_59_code
def yX12_count : MethodName := ⟨RX12, "count", "(I)I"⟩
abbrev cX12_note : ByteArray := prog_14_method_60_code
def yX12_note : MethodName := ⟨RX12, "note", "(J)V"⟩
abbrev cX12_digest : ByteArray := prog_14_method_61_code
def yX12_digest : MethodName := ⟨RX12, "digest", "()J"⟩
def RJx145de : String := "java/io/Serializable"
def TJx145de : u_T := fun k => match k with
  | _ => ("", "", "", false)
def tyJx145de : Nat → FieldType := fun k => match k with
  | _ => .int
abbrev wsJx145de0 : List Cond := u_ws RJx145de TJx145de 0
theorem nmJx145de : ∀ a, a < 0 → ∀ b, b < 0 → a ≠ b → (TJx145de a).2.1 ≠ (TJx145de b).2.1 := by decide +kernel
theorem tyJx145de_ok : ∀ k, k < 0 → parseFieldDescriptor (TJx145de k).2.2.1 = some (tyJx145de k) := by decide +kernel
def RJx8e188 : String := "java/lang/Cloneable"
def TJx8e188 : u_T := fun k => match k with
  | _ => ("", "", "", false)
def tyJx8e188 : Nat → FieldType := fun k => match k with
  | _ => .int
abbrev wsJx8e1880 : List Cond := u_ws RJx8e188 TJx8e188 0
theorem nmJx8e188 : ∀ a, a < 0 → ∀ b, b < 0 → a ≠ b → (TJx8e188 a).2.1 ≠ (TJx8e188 b).2.1 := by decide +kernel
theorem tyJx8e188_ok : ∀ k, k < 0 → parseFieldDescriptor (TJx8e188 k).2.2.1 = some (tyJx8e188 k) := by decide +kernel
def RJ6 : String := "java/lang/Integer"
def TJ6 : u_T := fun k => match k with
  | _ => ("", "", "", false)
def tyJ6 : Nat → FieldType := fun k => match k with
  | _ => .int
abbrev wsJ60 : List Cond := u_ws RJ6 TJ6 0
theorem nmJ6 : ∀ a, a < 0 → ∀ b, b < 0 → a ≠ b → (TJ6 a).2.1 ≠ (TJ6 b).2.1 := by decide +kernel
theorem tyJ6_ok : ∀ k, k < 0 → parseFieldDescriptor (TJ6 k).2.2.1 = some (tyJ6 k) := by decide +kernel
abbrev cJ6_bitCount_0f7a4 : ByteArray := prog_17_method_49_code
def yJ6_bitCount_0f7a4 : MethodName := ⟨RJ6, "bitCount", "(I)I"⟩
def RJxab1ab : String := "java/lang/Iterable"
def TJxab1ab : u_T := fun k => match k with
  | _ => ("", "", "", false)
def tyJxab1ab : Nat → FieldType := fun k => match k with
  | _ => .int
abbrev wsJxab1ab0 : List Cond := u_ws RJxab1ab TJxab1ab 0
theorem nmJxab1ab : ∀ a, a < 0 → ∀ b, b < 0 → a ≠ b → (TJxab1ab a).2.1 ≠ (TJxab1ab b).2.1 := by decide +kernel
theorem tyJxab1ab_ok : ∀ k, k < 0 → parseFieldDescriptor (TJxab1ab k).2.2.1 = some (tyJxab1ab k) := by decide +kernel
def RJ9 : String := "java/lang/Math"
def TJ9 : u_T := fun k => match k with
  | _ => ("", "", "", false)
def tyJ9 : Nat → FieldType := fun k => match k with
  | _ => .int
abbrev wsJ90 : List Cond := u_ws RJ9 TJ9 0
theorem nmJ9 : ∀ a, a < 0 → ∀ b, b < 0 → a ≠ b → (TJ9 a).2.1 ≠ (TJ9 b).2.1 := by decide +kernel
theorem tyJ9_ok : ∀ k, k < 0 → parseFieldDescriptor (TJ9 k).2.2.1 = some (tyJ9 k) := by decide +kernel
abbrev cJ9_abs_0f7a4 : ByteArray := prog_19_method_59_code
def yJ9_abs_0f7a4 : MethodName := ⟨RJ9, "abs", "(I)I"⟩
abbrev cJ9_max_7cf53 : ByteArray := prog_19_method_65_code
def yJ9_max_7cf53 : MethodName := ⟨RJ9, "max", "(II)I"⟩
abbrev cJ9_min_7cf53 : ByteArray := prog_19_method_69_code
def yJ9_min_7cf53 : MethodName := ⟨RJ9, "min", "(II)I"⟩
abbrev cJ9_min_f86c9 : ByteArray := prog_19_method_70_code
def yJ9_min_f86c9 : MethodName := ⟨RJ9, "min", "(JJ)J"⟩
def RJ10 : String := "java/lang/System"
def TJ10 : u_T := fun k => match k with
  | _ => ("", "", "", false)
def tyJ10 : Nat → FieldType := fun k => match k with
  | _ => .int
abbrev wsJ100 : List Cond := u_ws RJ10 TJ10 0
theorem nmJ10 : ∀ a, a < 0 → ∀ b, b < 0 → a ≠ b → (TJ10 a).2.1 ≠ (TJ10 b).2.1 := by decide +kernel
theorem tyJ10_ok : ∀ k, k < 0 → parseFieldDescriptor (TJ10 k).2.2.1 = some (tyJ10 k) := by decide +kernel
def RJxa1e45 : String := "java/util/AbstractCollection"
def TJxa1e45 : u_T := fun k => match k with
  | _ => ("", "", "", false)
def tyJxa1e45 : Nat → FieldType := fun k => match k with
  | _ => .int
abbrev wsJxa1e450 : List Cond := u_ws RJxa1e45 TJxa1e45 0
theorem nmJxa1e45 : ∀ a, a < 0 → ∀ b, b < 0 → a ≠ b → (TJxa1e45 a).2.1 ≠ (TJxa1e45 b).2.1 := by decide +kernel
theorem tyJxa1e45_ok : ∀ k, k < 0 → parseFieldDescriptor (TJxa1e45 k).2.2.1 = some (tyJxa1e45 k) := by decide +kernel
abbrev cJxa1e45_init_da8c8 : ByteArray := prog_21_method_1_code
def yJxa1e45_init_da8c8 : MethodName := ⟨RJxa1e45, "<init>", "()V"⟩
def RJxc12de : String := "java/util/AbstractList"
def TJxc12de : u_T := fun k => match k with
  | _ => ("", "", "", false)
def tyJxc12de : Nat → FieldType := fun k => match k with
  | _ => .int
abbrev wsJxc12de0 : List Cond := u_ws RJxc12de TJxc12de 0
theorem nmJxc12de : ∀ a, a < 0 → ∀ b, b < 0 → a ≠ b → (TJxc12de a).2.1 ≠ (TJxc12de b).2.1 := by decide +kernel
theorem tyJxc12de_ok : ∀ k, k < 0 → parseFieldDescriptor (TJxc12de k).2.2.1 = some (tyJxc12de k) := by decide +kernel
abbrev cJxc12de_init_da8c8 : ByteArray := prog_22_method_1_code
def yJxc12de_init_da8c8 : MethodName := ⟨RJxc12de, "<init>", "()V"⟩
def RJx4a65c : String := "java/util/ArrayList"
def TJx4a65c : u_T := fun k => match k with
  | 0 => ("java/util/AbstractList", "modCount", "I", false)
  | 1 => ("java/util/ArrayList", "elementData", "[Ljava/lang/Object;", false)
  | _ => ("java/util/ArrayList", "size", "I", false)
def tyJx4a65c : Nat → FieldType := fun k => match k with
  | 0 => .int
  | 1 => .array (.object "java/lang/Object")
  | _ => .int
abbrev wsJx4a65c0 : List Cond := u_ws RJx4a65c TJx4a65c 3
theorem nmJx4a65c : ∀ a, a < 3 → ∀ b, b < 3 → a ≠ b → (TJx4a65c a).2.1 ≠ (TJx4a65c b).2.1 := by decide +kernel
theorem tyJx4a65c_ok : ∀ k, k < 3 → parseFieldDescriptor (TJx4a65c k).2.2.1 = some (tyJx4a65c k) := by decide +kernel
abbrev cJx4a65c_init_da8c8 : ByteArray := prog_23_method_2_code
def yJx4a65c_init_da8c8 : MethodName := ⟨RJx4a65c, "<init>", "()V"⟩
abbrev cJx4a65c_grow_92f84 : ByteArray := prog_23_method_6_code
def yJx4a65c_grow_92f84 : MethodName := ⟨RJx4a65c, "grow", "(I)[Ljava/lang/Object;"⟩
abbrev cJx4a65c_grow_d5877 : ByteArray := prog_23_method_7_code
def yJx4a65c_grow_d5877 : MethodName := ⟨RJx4a65c, "grow", "()[Ljava/lang/Object;"⟩
abbrev cJx4a65c_size_8abf5 : ByteArray := prog_23_method_8_code
def yJx4a65c_size_8abf5 : MethodName := ⟨RJx4a65c, "size", "()I"⟩
abbrev cJx4a65c_isEmpty_aae02 : ByteArray := prog_23_method_9_code
def yJx4a65c_isEmpty_aae02 : MethodName := ⟨RJx4a65c, "isEmpty", "()Z"⟩
abbrev cJx4a65c_elementData_915e3 : ByteArray := prog_23_method_18_code
def yJx4a65c_elementData_915e3 : MethodName := ⟨RJx4a65c, "elementData", "(I)Ljava/lang/Object;"⟩
abbrev cJx4a65c_get_915e3 : ByteArray := prog_23_method_20_code
def yJx4a65c_get_915e3 : MethodName := ⟨RJx4a65c, "get", "(I)Ljava/lang/Object;"⟩
abbrev cJx4a65c_add_72be8 : ByteArray := prog_23_method_24_code
def yJx4a65c_add_72be8 : MethodName := ⟨RJx4a65c, "add", "(Ljava/lang/Object;[Ljava/lang/Object;I)V"⟩
abbrev cJx4a65c_add_9ea2d : ByteArray := prog_23_method_25_code
def yJx4a65c_add_9ea2d : MethodName := ⟨RJx4a65c, "add", "(Ljava/lang/Object;)Z"⟩
def RJ7 : String := "java/util/Arrays"
def TJ7 : u_T := fun k => match k with
  | _ => ("", "", "", false)
def tyJ7 : Nat → FieldType := fun k => match k with
  | _ => .int
abbrev wsJ70 : List Cond := u_ws RJ7 TJ7 0
theorem nmJ7 : ∀ a, a < 0 → ∀ b, b < 0 → a ≠ b → (TJ7 a).2.1 ≠ (TJ7 b).2.1 := by decide +kernel
theorem tyJ7_ok : ∀ k, k < 0 → parseFieldDescriptor (TJ7 k).2.2.1 = some (tyJ7 k) := by decide +kernel
abbrev cJ7_copyOf_1904c : ByteArray := prog_24_method_119_code
def yJ7_copyOf_1904c : MethodName := ⟨RJ7, "copyOf", "([Ljava/lang/Object;I)[Ljava/lang/Object;"⟩
abbrev cJ7_copyOf_6403c : ByteArray := prog_24_method_120_code
def yJ7_copyOf_6403c : MethodName := ⟨RJ7, "copyOf", "([Ljava/lang/Object;ILjava/lang/Class;)[Ljava/lang/Object;"⟩
def RJx5ef63 : String := "java/util/Collection"
def TJx5ef63 : u_T := fun k => match k with
  | _ => ("", "", "", false)
def tyJx5ef63 : Nat → FieldType := fun k => match k with
  | _ => .int
abbrev wsJx5ef630 : List Cond := u_ws RJx5ef63 TJx5ef63 0
theorem nmJx5ef63 : ∀ a, a < 0 → ∀ b, b < 0 → a ≠ b → (TJx5ef63 a).2.1 ≠ (TJx5ef63 b).2.1 := by decide +kernel
theorem tyJx5ef63_ok : ∀ k, k < 0 → parseFieldDescriptor (TJx5ef63 k).2.2.1 = some (tyJx5ef63 k) := by decide +kernel
def RJxbd725 : String := "java/util/List"
def TJxbd725 : u_T := fun k => match k with
  | _ => ("", "", "", false)
def tyJxbd725 : Nat → FieldType := fun k => match k with
  | _ => .int
abbrev wsJxbd7250 : List Cond := u_ws RJxbd725 TJxbd725 0
theorem nmJxbd725 : ∀ a, a < 0 → ∀ b, b < 0 → a ≠ b → (TJxbd725 a).2.1 ≠ (TJxbd725 b).2.1 := by decide +kernel
theorem tyJxbd725_ok : ∀ k, k < 0 → parseFieldDescriptor (TJxbd725 k).2.2.1 = some (tyJxbd725 k) := by decide +kernel
def RJ15 : String := "java/util/Objects"
def TJ15 : u_T := fun k => match k with
  | _ => ("", "", "", false)
def tyJ15 : Nat → FieldType := fun k => match k with
  | _ => .int
abbrev wsJ150 : List Cond := u_ws RJ15 TJ15 0
theorem nmJ15 : ∀ a, a < 0 → ∀ b, b < 0 → a ≠ b → (TJ15 a).2.1 ≠ (TJ15 b).2.1 := by decide +kernel
theorem tyJ15_ok : ∀ k, k < 0 → parseFieldDescriptor (TJ15 k).2.2.1 = some (tyJ15 k) := by decide +kernel
abbrev cJ15_checkIndex_7cf53 : ByteArray := prog_27_method_17_code
def yJ15_checkIndex_7cf53 : MethodName := ⟨RJ15, "checkIndex", "(II)I"⟩
def RJxf0a74 : String := "java/util/RandomAccess"
def TJxf0a74 : u_T := fun k => match k with
  | _ => ("", "", "", false)
def tyJxf0a74 : Nat → FieldType := fun k => match k with
  | _ => .int
abbrev wsJxf0a740 : List Cond := u_ws RJxf0a74 TJxf0a74 0
theorem nmJxf0a74 : ∀ a, a < 0 → ∀ b, b < 0 → a ≠ b → (TJxf0a74 a).2.1 ≠ (TJxf0a74 b).2.1 := by decide +kernel
theorem tyJxf0a74_ok : ∀ k, k < 0 → parseFieldDescriptor (TJxf0a74 k).2.2.1 = some (tyJxf0a74 k) := by decide +kernel
def RJxa66e6 : String := "java/util/SequencedCollection"
def TJxa66e6 : u_T := fun k => match k with
  | _ => ("", "", "", false)
def tyJxa66e6 : Nat → FieldType := fun k => match k with
  | _ => .int
abbrev wsJxa66e60 : List Cond := u_ws RJxa66e6 TJxa66e6 0
theorem nmJxa66e6 : ∀ a, a < 0 → ∀ b, b < 0 → a ≠ b → (TJxa66e6 a).2.1 ≠ (TJxa66e6 b).2.1 := by decide +kernel
theorem tyJxa66e6_ok : ∀ k, k < 0 → parseFieldDescriptor (TJxa66e6 k).2.2.1 = some (tyJxa66e6 k) := by decide +kernel
def RJ8 : String := "jdk/internal/util/ArraysSupport"
def TJ8 : u_T := fun k => match k with
  | _ => ("", "", "", false)
def tyJ8 : Nat → FieldType := fun k => match k with
  | _ => .int
abbrev wsJ80 : List Cond := u_ws RJ8 TJ8 0
theorem nmJ8 : ∀ a, a < 0 → ∀ b, b < 0 → a ≠ b → (TJ8 a).2.1 ≠ (TJ8 b).2.1 := by decide +kernel
theorem tyJ8_ok : ∀ k, k < 0 → parseFieldDescriptor (TJ8 k).2.2.1 = some (tyJ8 k) := by decide +kernel
abbrev cJ8_newLength_cabcc : ByteArray := prog_30_method_27_code
def yJ8_newLength_cabcc : MethodName := ⟨RJ8, "newLength", "(III)I"⟩
abbrev cJ8_hugeLength_7cf53 : ByteArray := prog_30_method_28_code
def yJ8_hugeLength_7cf53 : MethodName := ⟨RJ8, "hugeLength", "(II)I"⟩
def RJ3 : String := "jdk/internal/util/Preconditions"
def TJ3 : u_T := fun k => match k with
  | _ => ("", "", "", false)
def tyJ3 : Nat → FieldType := fun k => match k with
  | _ => .int
abbrev wsJ30 : List Cond := u_ws RJ3 TJ3 0
theorem nmJ3 : ∀ a, a < 0 → ∀ b, b < 0 → a ≠ b → (TJ3 a).2.1 ≠ (TJ3 b).2.1 := by decide +kernel
theorem tyJ3_ok : ∀ k, k < 0 → parseFieldDescriptor (TJ3 k).2.2.1 = some (tyJ3 k) := by decide +kernel
abbrev cJ3_checkIndex_8e157 : ByteArray := prog_31_method_11_code
def yJ3_checkIndex_8e157 : MethodName := ⟨RJ3, "checkIndex", "(IILjava/util/function/BiFunction;)I"⟩
def RL : String := "HeaveSongsLaw"
abbrev cL_law : ByteArray := code
def yL_law : MethodName := ⟨RL, "law", "([I)Z"⟩
abbrev vwCl : List vw_C := [(RJx4a65c, TJx4a65c, 3), (RX0, TX0, 9), (RX1, TX1, 8), (RX2, TX2, 3), (RX3, TX3, 6), (RX4, TX4, 5), (RX5, TX5, 3), (RX6, TX6, 2), (RX7, TX7, 2), (RX8, TX8, 3), (RX9, TX9, 9), (RX10, TX10, 2), (RX11, TX11, 12), (RX12, TX12, 47)]
theorem tw_0 : (Jvm.Cond.initialized "HeaveSongsLaw") ∈ gt := gt_mem 43 (by decide +kernel) rfl
theorem tw_1 : (Jvm.Cond.initialized "HeaveSongs") ∈ gt := gt_mem 44 (by decide +kernel) rfl
theorem tw_2 : (Jvm.Cond.initialized "HeaveSongs$Row") ∈ gt := gt_mem 45 (by decide +kernel) rfl
theorem tw_3 : (Jvm.Cond.initialized "java/util/AbstractCollection") ∈ gt := gt_mem 46 (by decide +kernel) rfl
theorem tw_4 : (Jvm.Cond.initialized "java/util/AbstractList") ∈ gt := gt_mem 47 (by decide +kernel) rfl
theorem tw_5 : (Jvm.Cond.initialized "java/util/ArrayList") ∈ gt := gt_mem 48 (by decide +kernel) rfl
theorem tw_6 : (Jvm.Cond.initialized "HeaveSongs$Hands") ∈ gt := gt_mem 49 (by decide +kernel) rfl
theorem tw_7 : (Jvm.Cond.initialized "HeaveSongs$Haul") ∈ gt := gt_mem 50 (by decide +kernel) rfl
theorem tw_8 : (Jvm.Cond.initialized "HeaveSongs$TaskSearch") ∈ gt := gt_mem 51 (by decide +kernel) rfl
theorem tw_9 : (Jvm.Cond.initialized "HeaveSongs$LineMaker") ∈ gt := gt_mem 52 (by decide +kernel) rfl
theorem tw_10 : (Jvm.Cond.initialized "HeaveSongs$Marks") ∈ gt := gt_mem 53 (by decide +kernel) rfl
theorem tw_11 : (Jvm.Cond.initialized "HeaveSongs$LateSearch") ∈ gt := gt_mem 54 (by decide +kernel) rfl
theorem tw_12 : (Jvm.Cond.initialized "HeaveSongs$Kin") ∈ gt := gt_mem 55 (by decide +kernel) rfl
theorem tw_13 : (Jvm.Cond.initialized "HeaveSongsModel") ∈ gt := gt_mem 56 (by decide +kernel) rfl
theorem tw_14 : (Jvm.Cond.initialized "HeaveSongs$Song") ∈ gt := gt_mem 57 (by decide +kernel) rfl
theorem tw_15 : (Jvm.Cond.initialized "jdk/internal/util/ArraysSupport") ∈ gt := gt_mem 58 (by decide +kernel) rfl
theorem tw_16 : (Jvm.Cond.initialized "java/lang/Math") ∈ gt := gt_mem 59 (by decide +kernel) rfl
theorem tw_17 : (Jvm.Cond.initialized "java/util/Arrays") ∈ gt := gt_mem 60 (by decide +kernel) rfl
theorem tw_18 : (Jvm.Cond.initialized "java/lang/System") ∈ gt := gt_mem 61 (by decide +kernel) rfl
theorem tw_19 : (Jvm.Cond.initialized "java/util/Objects") ∈ gt := gt_mem 62 (by decide +kernel) rfl
theorem tw_20 : (Jvm.Cond.initialized "jdk/internal/util/Preconditions") ∈ gt := gt_mem 63 (by decide +kernel) rfl
theorem tw_21 : (Jvm.Cond.initialized "HeaveSongs$Task") ∈ gt := gt_mem 64 (by decide +kernel) rfl
theorem tw_22 : (Jvm.Cond.initialized "java/lang/Integer") ∈ gt := gt_mem 65 (by decide +kernel) rfl
theorem tw_23 : (Jvm.Cond.initialized "HeaveSongs$Word") ∈ gt := gt_mem 66 (by decide +kernel) rfl
theorem tw_24 : (Jvm.Cond.classLink "HeaveSongsLaw" (7 : Nat) "HeaveSongs") ∈ gt := gt_mem 67 (by decide +kernel) rfl
theorem tw_25 : (Jvm.Cond.instantiable "HeaveSongs" (12 : Nat)) ∈ gt := gt_mem 68 (by decide +kernel) rfl
theorem tw_26 : (Jvm.Cond.methodLink "HeaveSongsLaw" (9 : Nat) ({ cls := "HeaveSongs", name := "<init>", desc := "()V" } : Jvm.MethodName)) ∈ gt := gt_mem 69 (by decide +kernel) rfl
theorem tw_27 : (Jvm.Cond.instanceMethod ({ cls := "HeaveSongs", name := "<init>", desc := "()V" } : Jvm.MethodName)) ∈ gt := gt_mem 70 (by decide +kernel) rfl
theorem tw_28 : (Jvm.Cond.code ({ cls := "HeaveSongs", name := "<init>", desc := "()V" } : Jvm.MethodName) prog_1_method_1_code (1 : Nat) (Option.none : Option Jvm.ClassFile.FieldType)) ∈ gt := gt_mem 71 (by decide +kernel) rfl
theorem tw_29 : (Jvm.Cond.methodLink "HeaveSongs" (1 : Nat) ({ cls := "java/lang/Object", name := "<init>", desc := "()V" } : Jvm.MethodName)) ∈ gt := gt_mem 72 (by decide +kernel) rfl
theorem tw_30 : (Jvm.Cond.instanceMethod ({ cls := "java/lang/Object", name := "<init>", desc := "()V" } : Jvm.MethodName)) ∈ gt := gt_mem 73 (by decide +kernel) rfl
theorem tw_31 : (Jvm.Cond.code ({ cls := "java/lang/Object", name := "<init>", desc := "()V" } : Jvm.MethodName) object_method_1_code (1 : Nat) (Option.none : Option Jvm.ClassFile.FieldType)) ∈ gt := gt_mem 74 (by decide +kernel) rfl
theorem tw_32 : (Jvm.Cond.classLink "HeaveSongs" (7 : Nat) "HeaveSongs$Row") ∈ gt := gt_mem 75 (by decide +kernel) rfl
theorem tw_33 : (Jvm.Cond.instantiable "HeaveSongs$Row" (2 : Nat)) ∈ gt := gt_mem 76 (by decide +kernel) rfl
theorem tw_35 : (Jvm.Cond.instanceMethod ({ cls := "HeaveSongs$Row", name := "<init>", desc := "()V" } : Jvm.MethodName)) ∈ gt := gt_mem 78 (by decide +kernel) rfl
theorem tw_36 : (Jvm.Cond.code ({ cls := "HeaveSongs$Row", name := "<init>", desc := "()V" } : Jvm.MethodName) prog_8_method_1_code (1 : Nat) (Option.none : Option Jvm.ClassFile.FieldType)) ∈ gt := gt_mem 79 (by decide +kernel) rfl
theorem tw_37 : (Jvm.Cond.methodLink "HeaveSongs$Row" (3 : Nat) ({ cls := "java/lang/Object", name := "<init>", desc := "()V" } : Jvm.MethodName)) ∈ gt := gt_mem 80 (by decide +kernel) rfl
theorem tw_38 : (Jvm.Cond.fieldLink "HeaveSongs$Row" (9 : Nat) "HeaveSongs$Row" "beats" "[I") ∈ gt := gt_mem 81 (by decide +kernel) rfl
theorem tw_39 : (Jvm.Cond.fieldLink "HeaveSongs$LineMaker" (28 : Nat) "HeaveSongs$Row" "beats" "[I") ∈ gt := gt_mem 82 (by decide +kernel) rfl
theorem tw_40 : (Jvm.Cond.fieldLink "HeaveSongs$Song" (25 : Nat) "HeaveSongs$Row" "beats" "[I") ∈ gt := gt_mem 83 (by decide +kernel) rfl
theorem tw_41 : (Jvm.Cond.fieldLink "HeaveSongs$Word" (23 : Nat) "HeaveSongs$Row" "beats" "[I") ∈ gt := gt_mem 84 (by decide +kernel) rfl
theorem tw_42 : (Jvm.Cond.fieldLink "HeaveSongs$Kin" (41 : Nat) "HeaveSongs$Row" "beats" "[I") ∈ gt := gt_mem 85 (by decide +kernel) rfl
theorem tw_43 : (Jvm.Cond.fieldLink "HeaveSongs$Row" (15 : Nat) "HeaveSongs$Row" "size" "I") ∈ gt := gt_mem 86 (by decide +kernel) rfl
theorem tw_44 : (Jvm.Cond.fieldLink "HeaveSongs$Song" (21 : Nat) "HeaveSongs$Row" "size" "I") ∈ gt := gt_mem 87 (by decide +kernel) rfl
theorem tw_45 : (Jvm.Cond.fieldLink "HeaveSongs$LineMaker" (22 : Nat) "HeaveSongs$Row" "size" "I") ∈ gt := gt_mem 88 (by decide +kernel) rfl
theorem tw_46 : (Jvm.Cond.fieldLink "HeaveSongs" (82 : Nat) "HeaveSongs$Row" "size" "I") ∈ gt := gt_mem 89 (by decide +kernel) rfl
theorem tw_47 : (Jvm.Cond.fieldLink "HeaveSongs$Kin" (35 : Nat) "HeaveSongs$Row" "size" "I") ∈ gt := gt_mem 90 (by decide +kernel) rfl
theorem tw_48 : (Jvm.Cond.fieldLink "HeaveSongs$Word" (18 : Nat) "HeaveSongs$Row" "size" "I") ∈ gt := gt_mem 91 (by decide +kernel) rfl
theorem tw_54 : (Jvm.Cond.arrayClass Jvm.ClassFile.FieldType.int) ∈ gt := gt_mem 97 (by decide +kernel) rfl
theorem tw_55 : (Jvm.Cond.classLink "HeaveSongs" (16 : Nat) "java/util/ArrayList") ∈ gt := gt_mem 98 (by decide +kernel) rfl
theorem tw_56 : (Jvm.Cond.instantiable "java/util/ArrayList" (3 : Nat)) ∈ gt := gt_mem 99 (by decide +kernel) rfl
theorem tw_57 : (Jvm.Cond.methodLink "HeaveSongs" (18 : Nat) ({ cls := "java/util/ArrayList", name := "<init>", desc := "()V" } : Jvm.MethodName)) ∈ gt := gt_mem 100 (by decide +kernel) rfl
theorem tw_58 : (Jvm.Cond.instanceMethod ({ cls := "java/util/ArrayList", name := "<init>", desc := "()V" } : Jvm.MethodName)) ∈ gt := gt_mem 101 (by decide +kernel) rfl
theorem tw_59 : (Jvm.Cond.code ({ cls := "java/util/ArrayList", name := "<init>", desc := "()V" } : Jvm.MethodName) prog_23_method_2_code (1 : Nat) (Option.none : Option Jvm.ClassFile.FieldType)) ∈ gt := gt_mem 102 (by decide +kernel) rfl
theorem tw_60 : (Jvm.Cond.methodLink "java/util/ArrayList" (1 : Nat) ({ cls := "java/util/AbstractList", name := "<init>", desc := "()V" } : Jvm.MethodName)) ∈ gt := gt_mem 103 (by decide +kernel) rfl
theorem tw_61 : (Jvm.Cond.instanceMethod ({ cls := "java/util/AbstractList", name := "<init>", desc := "()V" } : Jvm.MethodName)) ∈ gt := gt_mem 104 (by decide +kernel) rfl
theorem tw_62 : (Jvm.Cond.code ({ cls := "java/util/AbstractList", name := "<init>", desc := "()V" } : Jvm.MethodName) prog_22_method_1_code (1 : Nat) (Option.none : Option Jvm.ClassFile.FieldType)) ∈ gt := gt_mem 105 (by decide +kernel) rfl
theorem tw_63 : (Jvm.Cond.methodLink "java/util/AbstractList" (1 : Nat) ({ cls := "java/util/AbstractCollection", name := "<init>", desc := "()V" } : Jvm.MethodName)) ∈ gt := gt_mem 106 (by decide +kernel) rfl
theorem tw_64 : (Jvm.Cond.instanceMethod ({ cls := "java/util/AbstractCollection", name := "<init>", desc := "()V" } : Jvm.MethodName)) ∈ gt := gt_mem 107 (by decide +kernel) rfl
theorem tw_65 : (Jvm.Cond.code ({ cls := "java/util/AbstractCollection", name := "<init>", desc := "()V" } : Jvm.MethodName) prog_21_method_1_code (1 : Nat) (Option.none : Option Jvm.ClassFile.FieldType)) ∈ gt := gt_mem 108 (by decide +kernel) rfl
theorem tw_66 : (Jvm.Cond.methodLink "java/util/AbstractCollection" (1 : Nat) ({ cls := "java/lang/Object", name := "<init>", desc := "()V" } : Jvm.MethodName)) ∈ gt := gt_mem 109 (by decide +kernel) rfl
theorem tw_67 : (Jvm.Cond.fieldLink "java/util/ArrayList" (39 : Nat) "java/util/ArrayList" "DEFAULTCAPACITY_EMPTY_ELEMENTDATA" "[Ljava/lang/Object;") ∈ gt := gt_mem 110 (by decide +kernel) rfl
theorem tw_69 : (Jvm.Cond.fieldLink "java/util/ArrayList" (9 : Nat) "java/util/ArrayList" "elementData" "[Ljava/lang/Object;") ∈ gt := gt_mem 112 (by decide +kernel) rfl
theorem tw_70 : (Jvm.Cond.fieldLink "java/util/ArrayList" (48 : Nat) "java/util/ArrayList" "size" "I") ∈ gt := gt_mem 113 (by decide +kernel) rfl
theorem tw_71 : (Jvm.Cond.fieldLink "java/util/AbstractList" (7 : Nat) "java/util/AbstractList" "modCount" "I") ∈ gt := gt_mem 114 (by decide +kernel) rfl
theorem tw_72 : (Jvm.Cond.fieldLink "java/util/ArrayList" (63 : Nat) "java/util/ArrayList" "modCount" "I") ∈ gt := gt_mem 115 (by decide +kernel) rfl
theorem tw_73 : (Jvm.Cond.sameField "java/util/ArrayList" "java/util/AbstractList" "modCount" "I") ∈ gt := gt_mem 116 (by decide +kernel) rfl
theorem tw_81 : (Jvm.Cond.classLink "HeaveSongs" (23 : Nat) "HeaveSongs$Hands") ∈ gt := gt_mem 124 (by decide +kernel) rfl
theorem tw_82 : (Jvm.Cond.instantiable "HeaveSongs$Hands" (9 : Nat)) ∈ gt := gt_mem 125 (by decide +kernel) rfl
theorem tw_84 : (Jvm.Cond.instanceMethod ({ cls := "HeaveSongs$Hands", name := "<init>", desc := "()V" } : Jvm.MethodName)) ∈ gt := gt_mem 127 (by decide +kernel) rfl
theorem tw_85 : (Jvm.Cond.code ({ cls := "HeaveSongs$Hands", name := "<init>", desc := "()V" } : Jvm.MethodName) prog_2_method_1_code (1 : Nat) (Option.none : Option Jvm.ClassFile.FieldType)) ∈ gt := gt_mem 128 (by decide +kernel) rfl
theorem tw_86 : (Jvm.Cond.methodLink "HeaveSongs$Hands" (3 : Nat) ({ cls := "java/lang/Object", name := "<init>", desc := "()V" } : Jvm.MethodName)) ∈ gt := gt_mem 129 (by decide +kernel) rfl
theorem tw_87 : (Jvm.Cond.fieldLink "HeaveSongs$Hands" (9 : Nat) "HeaveSongs$Hands" "strength" "[I") ∈ gt := gt_mem 130 (by decide +kernel) rfl
theorem tw_88 : (Jvm.Cond.fieldLink "HeaveSongs$Haul" (44 : Nat) "HeaveSongs$Hands" "strength" "[I") ∈ gt := gt_mem 131 (by decide +kernel) rfl
theorem tw_89 : (Jvm.Cond.fieldLink "HeaveSongs$Hands" (15 : Nat) "HeaveSongs$Hands" "tires" "[I") ∈ gt := gt_mem 132 (by decide +kernel) rfl
theorem tw_90 : (Jvm.Cond.fieldLink "HeaveSongs$Haul" (92 : Nat) "HeaveSongs$Hands" "tires" "[I") ∈ gt := gt_mem 133 (by decide +kernel) rfl
theorem tw_91 : (Jvm.Cond.fieldLink "HeaveSongs$Hands" (18 : Nat) "HeaveSongs$Hands" "rests" "[I") ∈ gt := gt_mem 134 (by decide +kernel) rfl
theorem tw_92 : (Jvm.Cond.fieldLink "HeaveSongs$Haul" (106 : Nat) "HeaveSongs$Hands" "rests" "[I") ∈ gt := gt_mem 135 (by decide +kernel) rfl
theorem tw_93 : (Jvm.Cond.fieldLink "HeaveSongs$Hands" (21 : Nat) "HeaveSongs$Hands" "breaths" "[I") ∈ gt := gt_mem 136 (by decide +kernel) rfl
theorem tw_94 : (Jvm.Cond.fieldLink "HeaveSongs$Haul" (109 : Nat) "HeaveSongs$Hands" "breaths" "[I") ∈ gt := gt_mem 137 (by decide +kernel) rfl
theorem tw_95 : (Jvm.Cond.fieldLink "HeaveSongs$Hands" (24 : Nat) "HeaveSongs$Hands" "late" "[I") ∈ gt := gt_mem 138 (by decide +kernel) rfl
theorem tw_96 : (Jvm.Cond.fieldLink "HeaveSongs$Haul" (34 : Nat) "HeaveSongs$Hands" "late" "[I") ∈ gt := gt_mem 139 (by decide +kernel) rfl
theorem tw_97 : (Jvm.Cond.fieldLink "HeaveSongs" (128 : Nat) "HeaveSongs$Hands" "late" "[I") ∈ gt := gt_mem 140 (by decide +kernel) rfl
theorem tw_98 : (Jvm.Cond.fieldLink "HeaveSongs$Hands" (27 : Nat) "HeaveSongs$Hands" "now" "[I") ∈ gt := gt_mem 141 (by decide +kernel) rfl
theorem tw_99 : (Jvm.Cond.fieldLink "HeaveSongs$Haul" (27 : Nat) "HeaveSongs$Hands" "now" "[I") ∈ gt := gt_mem 142 (by decide +kernel) rfl
theorem tw_100 : (Jvm.Cond.fieldLink "HeaveSongs$TaskSearch" (46 : Nat) "HeaveSongs$Hands" "now" "[I") ∈ gt := gt_mem 143 (by decide +kernel) rfl
theorem tw_101 : (Jvm.Cond.fieldLink "HeaveSongs" (141 : Nat) "HeaveSongs$Hands" "now" "[I") ∈ gt := gt_mem 144 (by decide +kernel) rfl
theorem tw_102 : (Jvm.Cond.fieldLink "HeaveSongs$Hands" (30 : Nat) "HeaveSongs$Hands" "size" "I") ∈ gt := gt_mem 145 (by decide +kernel) rfl
theorem tw_103 : (Jvm.Cond.fieldLink "HeaveSongs$LateSearch" (36 : Nat) "HeaveSongs$Hands" "size" "I") ∈ gt := gt_mem 146 (by decide +kernel) rfl
theorem tw_104 : (Jvm.Cond.fieldLink "HeaveSongs$Haul" (50 : Nat) "HeaveSongs$Hands" "size" "I") ∈ gt := gt_mem 147 (by decide +kernel) rfl
theorem tw_105 : (Jvm.Cond.fieldLink "HeaveSongs$TaskSearch" (101 : Nat) "HeaveSongs$Hands" "size" "I") ∈ gt := gt_mem 148 (by decide +kernel) rfl
theorem tw_106 : (Jvm.Cond.fieldLink "HeaveSongs" (124 : Nat) "HeaveSongs$Hands" "size" "I") ∈ gt := gt_mem 149 (by decide +kernel) rfl
theorem tw_107 : (Jvm.Cond.fieldLink "HeaveSongs$Haul" (35 : Nat) "HeaveSongs$Hands" "crew" "I") ∈ gt := gt_mem 150 (by decide +kernel) rfl
theorem tw_108 : (Jvm.Cond.fieldLink "HeaveSongs$LateSearch" (41 : Nat) "HeaveSongs$Hands" "crew" "I") ∈ gt := gt_mem 151 (by decide +kernel) rfl
theorem tw_109 : (Jvm.Cond.fieldLink "HeaveSongs$Hands" (38 : Nat) "HeaveSongs$Hands" "crew" "I") ∈ gt := gt_mem 152 (by decide +kernel) rfl
theorem tw_110 : (Jvm.Cond.fieldLink "HeaveSongs" (135 : Nat) "HeaveSongs$Hands" "crew" "I") ∈ gt := gt_mem 153 (by decide +kernel) rfl
theorem tw_111 : (Jvm.Cond.fieldLink "HeaveSongs$Haul" (40 : Nat) "HeaveSongs$Hands" "floor" "I") ∈ gt := gt_mem 154 (by decide +kernel) rfl
theorem tw_112 : (Jvm.Cond.fieldLink "HeaveSongs" (138 : Nat) "HeaveSongs$Hands" "floor" "I") ∈ gt := gt_mem 155 (by decide +kernel) rfl
theorem tw_132 : (Jvm.Cond.classLink "HeaveSongs" (30 : Nat) "HeaveSongs$Haul") ∈ gt := gt_mem 175 (by decide +kernel) rfl
theorem tw_133 : (Jvm.Cond.instantiable "HeaveSongs$Haul" (8 : Nat)) ∈ gt := gt_mem 176 (by decide +kernel) rfl
theorem tw_135 : (Jvm.Cond.instanceMethod ({ cls := "HeaveSongs$Haul", name := "<init>", desc := "()V" } : Jvm.MethodName)) ∈ gt := gt_mem 178 (by decide +kernel) rfl
theorem tw_136 : (Jvm.Cond.code ({ cls := "HeaveSongs$Haul", name := "<init>", desc := "()V" } : Jvm.MethodName) prog_3_method_1_code (1 : Nat) (Option.none : Option Jvm.ClassFile.FieldType)) ∈ gt := gt_mem 179 (by decide +kernel) rfl
theorem tw_137 : (Jvm.Cond.methodLink "HeaveSongs$Haul" (3 : Nat) ({ cls := "java/lang/Object", name := "<init>", desc := "()V" } : Jvm.MethodName)) ∈ gt := gt_mem 180 (by decide +kernel) rfl
theorem tw_138 : (Jvm.Cond.fieldLink "HeaveSongs$Haul" (9 : Nat) "HeaveSongs$Haul" "now" "[I") ∈ gt := gt_mem 181 (by decide +kernel) rfl
theorem tw_139 : (Jvm.Cond.fieldLink "HeaveSongs$TaskSearch" (65 : Nat) "HeaveSongs$Haul" "now" "[I") ∈ gt := gt_mem 182 (by decide +kernel) rfl
theorem tw_140 : (Jvm.Cond.fieldLink "HeaveSongs" (167 : Nat) "HeaveSongs$Haul" "now" "[I") ∈ gt := gt_mem 183 (by decide +kernel) rfl
theorem tw_141 : (Jvm.Cond.fieldLink "HeaveSongs$Haul" (15 : Nat) "HeaveSongs$Haul" "late" "[I") ∈ gt := gt_mem 184 (by decide +kernel) rfl
theorem tw_142 : (Jvm.Cond.fieldLink "HeaveSongs$LateSearch" (48 : Nat) "HeaveSongs$Haul" "late" "[I") ∈ gt := gt_mem 185 (by decide +kernel) rfl
theorem tw_143 : (Jvm.Cond.fieldLink "HeaveSongs$Haul" (18 : Nat) "HeaveSongs$Haul" "won" "[I") ∈ gt := gt_mem 186 (by decide +kernel) rfl
theorem tw_144 : (Jvm.Cond.fieldLink "HeaveSongs$LateSearch" (73 : Nat) "HeaveSongs$Haul" "won" "[I") ∈ gt := gt_mem 187 (by decide +kernel) rfl
theorem tw_145 : (Jvm.Cond.fieldLink "HeaveSongs" (175 : Nat) "HeaveSongs$Haul" "won" "[I") ∈ gt := gt_mem 188 (by decide +kernel) rfl
theorem tw_146 : (Jvm.Cond.fieldLink "HeaveSongs$Haul" (21 : Nat) "HeaveSongs$Haul" "force" "[I") ∈ gt := gt_mem 189 (by decide +kernel) rfl
theorem tw_147 : (Jvm.Cond.fieldLink "HeaveSongs" (182 : Nat) "HeaveSongs$Haul" "force" "[I") ∈ gt := gt_mem 190 (by decide +kernel) rfl
theorem tw_148 : (Jvm.Cond.fieldLink "HeaveSongs$Haul" (24 : Nat) "HeaveSongs$Haul" "crewByLate" "[I") ∈ gt := gt_mem 191 (by decide +kernel) rfl
theorem tw_149 : (Jvm.Cond.fieldLink "HeaveSongs$Haul" (39 : Nat) "HeaveSongs$Haul" "crew" "I") ∈ gt := gt_mem 192 (by decide +kernel) rfl
theorem tw_150 : (Jvm.Cond.fieldLink "HeaveSongs$TaskSearch" (98 : Nat) "HeaveSongs$Haul" "crew" "I") ∈ gt := gt_mem 193 (by decide +kernel) rfl
theorem tw_151 : (Jvm.Cond.fieldLink "HeaveSongs$Haul" (43 : Nat) "HeaveSongs$Haul" "floor" "I") ∈ gt := gt_mem 194 (by decide +kernel) rfl
theorem tw_152 : (Jvm.Cond.fieldLink "HeaveSongs$TaskSearch" (78 : Nat) "HeaveSongs$Haul" "beats" "I") ∈ gt := gt_mem 195 (by decide +kernel) rfl
theorem tw_153 : (Jvm.Cond.fieldLink "HeaveSongs$Haul" (47 : Nat) "HeaveSongs$Haul" "beats" "I") ∈ gt := gt_mem 196 (by decide +kernel) rfl
theorem tw_154 : (Jvm.Cond.fieldLink "HeaveSongs" (172 : Nat) "HeaveSongs$Haul" "beats" "I") ∈ gt := gt_mem 197 (by decide +kernel) rfl
theorem tw_172 : (Jvm.Cond.classLink "HeaveSongs" (40 : Nat) "HeaveSongs$TaskSearch") ∈ gt := gt_mem 215 (by decide +kernel) rfl
theorem tw_173 : (Jvm.Cond.instantiable "HeaveSongs$TaskSearch" (9 : Nat)) ∈ gt := gt_mem 216 (by decide +kernel) rfl
theorem tw_175 : (Jvm.Cond.instanceMethod ({ cls := "HeaveSongs$TaskSearch", name := "<init>", desc := "()V" } : Jvm.MethodName)) ∈ gt := gt_mem 218 (by decide +kernel) rfl
theorem tw_176 : (Jvm.Cond.code ({ cls := "HeaveSongs$TaskSearch", name := "<init>", desc := "()V" } : Jvm.MethodName) prog_11_method_1_code (1 : Nat) (Option.none : Option Jvm.ClassFile.FieldType)) ∈ gt := gt_mem 219 (by decide +kernel) rfl
theorem tw_177 : (Jvm.Cond.methodLink "HeaveSongs$TaskSearch" (3 : Nat) ({ cls := "java/lang/Object", name := "<init>", desc := "()V" } : Jvm.MethodName)) ∈ gt := gt_mem 220 (by decide +kernel) rfl
theorem tw_178 : (Jvm.Cond.classLink "HeaveSongs$TaskSearch" (9 : Nat) "HeaveSongs$Haul") ∈ gt := gt_mem 221 (by decide +kernel) rfl
theorem tw_180 : (Jvm.Cond.classLink "HeaveSongs$TaskSearch" (18 : Nat) "[[I") ∈ gt := gt_mem 223 (by decide +kernel) rfl
theorem tw_182 : (Jvm.Cond.constant "HeaveSongs$TaskSearch" (30 : Nat) (1000000000 : Int32)) ∈ gt := gt_mem 225 (by decide +kernel) rfl
theorem tw_183 : (Jvm.Cond.fieldLink "HeaveSongs$TaskSearch" (12 : Nat) "HeaveSongs$TaskSearch" "trial" "LHeaveSongs$Haul;") ∈ gt := gt_mem 226 (by decide +kernel) rfl
theorem tw_184 : (Jvm.Cond.fieldLink "HeaveSongs$TaskSearch" (20 : Nat) "HeaveSongs$TaskSearch" "nowAhead" "[[I") ∈ gt := gt_mem 227 (by decide +kernel) rfl
theorem tw_185 : (Jvm.Cond.fieldLink "HeaveSongs$TaskSearch" (23 : Nat) "HeaveSongs$TaskSearch" "tried" "[I") ∈ gt := gt_mem 228 (by decide +kernel) rfl
theorem tw_186 : (Jvm.Cond.fieldLink "HeaveSongs$TaskSearch" (27 : Nat) "HeaveSongs$TaskSearch" "planSongs" "[I") ∈ gt := gt_mem 229 (by decide +kernel) rfl
theorem tw_187 : (Jvm.Cond.fieldLink "HeaveSongs" (200 : Nat) "HeaveSongs$TaskSearch" "planSongs" "[I") ∈ gt := gt_mem 230 (by decide +kernel) rfl
theorem tw_188 : (Jvm.Cond.fieldLink "HeaveSongs$TaskSearch" (31 : Nat) "HeaveSongs$TaskSearch" "planBeats" "I") ∈ gt := gt_mem 231 (by decide +kernel) rfl
theorem tw_189 : (Jvm.Cond.fieldLink "HeaveSongs" (196 : Nat) "HeaveSongs$TaskSearch" "planBeats" "I") ∈ gt := gt_mem 232 (by decide +kernel) rfl
theorem tw_190 : (Jvm.Cond.fieldLink "HeaveSongs$TaskSearch" (38 : Nat) "HeaveSongs$TaskSearch" "planKnown" "Z") ∈ gt := gt_mem 233 (by decide +kernel) rfl
theorem tw_191 : (Jvm.Cond.fieldLink "HeaveSongs" (102 : Nat) "HeaveSongs$TaskSearch" "planKnown" "Z") ∈ gt := gt_mem 234 (by decide +kernel) rfl
theorem tw_192 : (Jvm.Cond.fieldLink "HeaveSongs$TaskSearch" (109 : Nat) "HeaveSongs$TaskSearch" "crewSet" "I") ∈ gt := gt_mem 235 (by decide +kernel) rfl
theorem tw_193 : (Jvm.Cond.fieldLink "HeaveSongs" (214 : Nat) "HeaveSongs$TaskSearch" "crewSet" "I") ∈ gt := gt_mem 236 (by decide +kernel) rfl
theorem tw_194 : (Jvm.Cond.fieldLink "HeaveSongs$TaskSearch" (35 : Nat) "HeaveSongs$TaskSearch" "crewBeats" "I") ∈ gt := gt_mem 237 (by decide +kernel) rfl
theorem tw_195 : (Jvm.Cond.fieldLink "HeaveSongs" (211 : Nat) "HeaveSongs$TaskSearch" "crewBeats" "I") ∈ gt := gt_mem 238 (by decide +kernel) rfl
theorem tw_196 : (Jvm.Cond.fieldLink "HeaveSongs$TaskSearch" (106 : Nat) "HeaveSongs$TaskSearch" "crewLeastNow" "I") ∈ gt := gt_mem 239 (by decide +kernel) rfl
theorem tw_197 : (Jvm.Cond.fieldLink "HeaveSongs" (217 : Nat) "HeaveSongs$TaskSearch" "crewLeastNow" "I") ∈ gt := gt_mem 240 (by decide +kernel) rfl
theorem tw_217 : (Jvm.Cond.classLink "HeaveSongs" (50 : Nat) "HeaveSongs$LineMaker") ∈ gt := gt_mem 260 (by decide +kernel) rfl
theorem tw_218 : (Jvm.Cond.instantiable "HeaveSongs$LineMaker" (5 : Nat)) ∈ gt := gt_mem 261 (by decide +kernel) rfl
theorem tw_220 : (Jvm.Cond.instanceMethod ({ cls := "HeaveSongs$LineMaker", name := "<init>", desc := "()V" } : Jvm.MethodName)) ∈ gt := gt_mem 263 (by decide +kernel) rfl
theorem tw_221 : (Jvm.Cond.code ({ cls := "HeaveSongs$LineMaker", name := "<init>", desc := "()V" } : Jvm.MethodName) prog_6_method_1_code (1 : Nat) (Option.none : Option Jvm.ClassFile.FieldType)) ∈ gt := gt_mem 264 (by decide +kernel) rfl
theorem tw_222 : (Jvm.Cond.methodLink "HeaveSongs$LineMaker" (3 : Nat) ({ cls := "java/lang/Object", name := "<init>", desc := "()V" } : Jvm.MethodName)) ∈ gt := gt_mem 265 (by decide +kernel) rfl
theorem tw_223 : (Jvm.Cond.fieldLink "HeaveSongs$LineMaker" (9 : Nat) "HeaveSongs$LineMaker" "waysFrom" "[J") ∈ gt := gt_mem 266 (by decide +kernel) rfl
theorem tw_224 : (Jvm.Cond.fieldLink "HeaveSongs$LineMaker" (15 : Nat) "HeaveSongs$LineMaker" "wrongFrom" "[I") ∈ gt := gt_mem 267 (by decide +kernel) rfl
theorem tw_225 : (Jvm.Cond.fieldLink "HeaveSongs$LineMaker" (19 : Nat) "HeaveSongs$LineMaker" "line" "[I") ∈ gt := gt_mem 268 (by decide +kernel) rfl
theorem tw_226 : (Jvm.Cond.fieldLink "HeaveSongs$LineMaker" (73 : Nat) "HeaveSongs$LineMaker" "size" "I") ∈ gt := gt_mem 269 (by decide +kernel) rfl
theorem tw_227 : (Jvm.Cond.fieldLink "HeaveSongs$LineMaker" (78 : Nat) "HeaveSongs$LineMaker" "linesAhead" "J") ∈ gt := gt_mem 270 (by decide +kernel) rfl
theorem tw_239 : (Jvm.Cond.arrayClass Jvm.ClassFile.FieldType.long) ∈ gt := gt_mem 282 (by decide +kernel) rfl
theorem tw_240 : (Jvm.Cond.classLink "HeaveSongs" (57 : Nat) "HeaveSongs$Marks") ∈ gt := gt_mem 283 (by decide +kernel) rfl
theorem tw_241 : (Jvm.Cond.instantiable "HeaveSongs$Marks" (3 : Nat)) ∈ gt := gt_mem 284 (by decide +kernel) rfl
theorem tw_243 : (Jvm.Cond.instanceMethod ({ cls := "HeaveSongs$Marks", name := "<init>", desc := "()V" } : Jvm.MethodName)) ∈ gt := gt_mem 286 (by decide +kernel) rfl
theorem tw_244 : (Jvm.Cond.code ({ cls := "HeaveSongs$Marks", name := "<init>", desc := "()V" } : Jvm.MethodName) prog_7_method_1_code (1 : Nat) (Option.none : Option Jvm.ClassFile.FieldType)) ∈ gt := gt_mem 287 (by decide +kernel) rfl
theorem tw_245 : (Jvm.Cond.methodLink "HeaveSongs$Marks" (3 : Nat) ({ cls := "java/lang/Object", name := "<init>", desc := "()V" } : Jvm.MethodName)) ∈ gt := gt_mem 288 (by decide +kernel) rfl
theorem tw_246 : (Jvm.Cond.fieldLink "HeaveSongs$Marks" (9 : Nat) "HeaveSongs$Marks" "beat" "[I") ∈ gt := gt_mem 289 (by decide +kernel) rfl
theorem tw_247 : (Jvm.Cond.fieldLink "HeaveSongs$Marks" (15 : Nat) "HeaveSongs$Marks" "read" "[I") ∈ gt := gt_mem 290 (by decide +kernel) rfl
theorem tw_248 : (Jvm.Cond.fieldLink "HeaveSongs$Marks" (18 : Nat) "HeaveSongs$Marks" "size" "I") ∈ gt := gt_mem 291 (by decide +kernel) rfl
theorem tw_249 : (Jvm.Cond.fieldLink "HeaveSongs" (249 : Nat) "HeaveSongs$Marks" "size" "I") ∈ gt := gt_mem 292 (by decide +kernel) rfl
theorem tw_257 : (Jvm.Cond.classLink "HeaveSongs" (64 : Nat) "HeaveSongs$LateSearch") ∈ gt := gt_mem 300 (by decide +kernel) rfl
theorem tw_258 : (Jvm.Cond.instantiable "HeaveSongs$LateSearch" (6 : Nat)) ∈ gt := gt_mem 301 (by decide +kernel) rfl
theorem tw_260 : (Jvm.Cond.instanceMethod ({ cls := "HeaveSongs$LateSearch", name := "<init>", desc := "()V" } : Jvm.MethodName)) ∈ gt := gt_mem 303 (by decide +kernel) rfl
theorem tw_261 : (Jvm.Cond.code ({ cls := "HeaveSongs$LateSearch", name := "<init>", desc := "()V" } : Jvm.MethodName) prog_5_method_1_code (1 : Nat) (Option.none : Option Jvm.ClassFile.FieldType)) ∈ gt := gt_mem 304 (by decide +kernel) rfl
theorem tw_262 : (Jvm.Cond.methodLink "HeaveSongs$LateSearch" (3 : Nat) ({ cls := "java/lang/Object", name := "<init>", desc := "()V" } : Jvm.MethodName)) ∈ gt := gt_mem 305 (by decide +kernel) rfl
theorem tw_263 : (Jvm.Cond.classLink "HeaveSongs$LateSearch" (9 : Nat) "HeaveSongs$Haul") ∈ gt := gt_mem 306 (by decide +kernel) rfl
theorem tw_265 : (Jvm.Cond.fieldLink "HeaveSongs$LateSearch" (12 : Nat) "HeaveSongs$LateSearch" "trial" "LHeaveSongs$Haul;") ∈ gt := gt_mem 308 (by decide +kernel) rfl
theorem tw_266 : (Jvm.Cond.fieldLink "HeaveSongs$LateSearch" (18 : Nat) "HeaveSongs$LateSearch" "handA" "I") ∈ gt := gt_mem 309 (by decide +kernel) rfl
theorem tw_267 : (Jvm.Cond.fieldLink "HeaveSongs" (257 : Nat) "HeaveSongs$LateSearch" "handA" "I") ∈ gt := gt_mem 310 (by decide +kernel) rfl
theorem tw_268 : (Jvm.Cond.fieldLink "HeaveSongs$LateSearch" (57 : Nat) "HeaveSongs$LateSearch" "handB" "I") ∈ gt := gt_mem 311 (by decide +kernel) rfl
theorem tw_269 : (Jvm.Cond.fieldLink "HeaveSongs" (274 : Nat) "HeaveSongs$LateSearch" "handB" "I") ∈ gt := gt_mem 312 (by decide +kernel) rfl
theorem tw_270 : (Jvm.Cond.fieldLink "HeaveSongs$LateSearch" (22 : Nat) "HeaveSongs$LateSearch" "lateA" "I") ∈ gt := gt_mem 313 (by decide +kernel) rfl
theorem tw_271 : (Jvm.Cond.fieldLink "HeaveSongs" (260 : Nat) "HeaveSongs$LateSearch" "lateA" "I") ∈ gt := gt_mem 314 (by decide +kernel) rfl
theorem tw_272 : (Jvm.Cond.fieldLink "HeaveSongs$LateSearch" (60 : Nat) "HeaveSongs$LateSearch" "lateB" "I") ∈ gt := gt_mem 315 (by decide +kernel) rfl
theorem tw_273 : (Jvm.Cond.fieldLink "HeaveSongs" (277 : Nat) "HeaveSongs$LateSearch" "lateB" "I") ∈ gt := gt_mem 316 (by decide +kernel) rfl
theorem tw_274 : (Jvm.Cond.fieldLink "HeaveSongs$LateSearch" (33 : Nat) "HeaveSongs$LateSearch" "sum" "I") ∈ gt := gt_mem 317 (by decide +kernel) rfl
theorem tw_275 : (Jvm.Cond.fieldLink "HeaveSongs" (263 : Nat) "HeaveSongs$LateSearch" "sum" "I") ∈ gt := gt_mem 318 (by decide +kernel) rfl
theorem tw_289 : (Jvm.Cond.classLink "HeaveSongs" (71 : Nat) "HeaveSongs$Kin") ∈ gt := gt_mem 332 (by decide +kernel) rfl
theorem tw_290 : (Jvm.Cond.instantiable "HeaveSongs$Kin" (3 : Nat)) ∈ gt := gt_mem 333 (by decide +kernel) rfl
theorem tw_292 : (Jvm.Cond.instanceMethod ({ cls := "HeaveSongs$Kin", name := "<init>", desc := "()V" } : Jvm.MethodName)) ∈ gt := gt_mem 335 (by decide +kernel) rfl
theorem tw_293 : (Jvm.Cond.code ({ cls := "HeaveSongs$Kin", name := "<init>", desc := "()V" } : Jvm.MethodName) prog_4_method_1_code (1 : Nat) (Option.none : Option Jvm.ClassFile.FieldType)) ∈ gt := gt_mem 336 (by decide +kernel) rfl
theorem tw_294 : (Jvm.Cond.methodLink "HeaveSongs$Kin" (3 : Nat) ({ cls := "java/lang/Object", name := "<init>", desc := "()V" } : Jvm.MethodName)) ∈ gt := gt_mem 337 (by decide +kernel) rfl
theorem tw_295 : (Jvm.Cond.fieldLink "HeaveSongs$Kin" (9 : Nat) "HeaveSongs$Kin" "cost" "[I") ∈ gt := gt_mem 338 (by decide +kernel) rfl
theorem tw_296 : (Jvm.Cond.fieldLink "HeaveSongs$Kin" (15 : Nat) "HeaveSongs$Kin" "hungTo" "[I") ∈ gt := gt_mem 339 (by decide +kernel) rfl
theorem tw_297 : (Jvm.Cond.fieldLink "HeaveSongs" (288 : Nat) "HeaveSongs$Kin" "hungTo" "[I") ∈ gt := gt_mem 340 (by decide +kernel) rfl
theorem tw_298 : (Jvm.Cond.fieldLink "HeaveSongs$Kin" (18 : Nat) "HeaveSongs$Kin" "isHung" "[Z") ∈ gt := gt_mem 341 (by decide +kernel) rfl
theorem tw_306 : (Jvm.Cond.arrayClass Jvm.ClassFile.FieldType.boolean) ∈ gt := gt_mem 349 (by decide +kernel) rfl
theorem tw_307 : (Jvm.Cond.fieldLink "HeaveSongs" (10 : Nat) "HeaveSongs" "row" "LHeaveSongs$Row;") ∈ gt := gt_mem 350 (by decide +kernel) rfl
theorem tw_308 : (Jvm.Cond.fieldLink "HeaveSongs" (19 : Nat) "HeaveSongs" "songs" "Ljava/util/ArrayList;") ∈ gt := gt_mem 351 (by decide +kernel) rfl
theorem tw_309 : (Jvm.Cond.fieldLink "HeaveSongs" (26 : Nat) "HeaveSongs" "hands" "LHeaveSongs$Hands;") ∈ gt := gt_mem 352 (by decide +kernel) rfl
theorem tw_310 : (Jvm.Cond.fieldLink "HeaveSongs" (33 : Nat) "HeaveSongs" "latest" "LHeaveSongs$Haul;") ∈ gt := gt_mem 353 (by decide +kernel) rfl
theorem tw_311 : (Jvm.Cond.fieldLink "HeaveSongs" (37 : Nat) "HeaveSongs" "tasks" "Ljava/util/ArrayList;") ∈ gt := gt_mem 354 (by decide +kernel) rfl
theorem tw_312 : (Jvm.Cond.fieldLink "HeaveSongs" (185 : Nat) "HeaveSongs" "pauseBetween" "I") ∈ gt := gt_mem 355 (by decide +kernel) rfl
theorem tw_313 : (Jvm.Cond.fieldLink "HeaveSongs" (43 : Nat) "HeaveSongs" "taskSearch" "LHeaveSongs$TaskSearch;") ∈ gt := gt_mem 356 (by decide +kernel) rfl
theorem tw_314 : (Jvm.Cond.fieldLink "HeaveSongs" (47 : Nat) "HeaveSongs" "words" "Ljava/util/ArrayList;") ∈ gt := gt_mem 357 (by decide +kernel) rfl
theorem tw_315 : (Jvm.Cond.fieldLink "HeaveSongs" (53 : Nat) "HeaveSongs" "lineMaker" "LHeaveSongs$LineMaker;") ∈ gt := gt_mem 358 (by decide +kernel) rfl
theorem tw_316 : (Jvm.Cond.fieldLink "HeaveSongs" (60 : Nat) "HeaveSongs" "marks" "LHeaveSongs$Marks;") ∈ gt := gt_mem 359 (by decide +kernel) rfl
theorem tw_317 : (Jvm.Cond.fieldLink "HeaveSongs" (67 : Nat) "HeaveSongs" "lateSearch" "LHeaveSongs$LateSearch;") ∈ gt := gt_mem 360 (by decide +kernel) rfl
theorem tw_318 : (Jvm.Cond.fieldLink "HeaveSongs" (74 : Nat) "HeaveSongs" "kin" "LHeaveSongs$Kin;") ∈ gt := gt_mem 361 (by decide +kernel) rfl
theorem tw_344 : (Jvm.Cond.methodLink "HeaveSongsLaw" (13 : Nat) ({ cls := "HeaveSongs", name := "beat", desc := "(I)I" } : Jvm.MethodName)) ∈ gt := gt_mem 387 (by decide +kernel) rfl
theorem tw_345 : (Jvm.Cond.instanceMethod ({ cls := "HeaveSongs", name := "beat", desc := "(I)I" } : Jvm.MethodName)) ∈ gt := gt_mem 388 (by decide +kernel) rfl
theorem tw_346 : (Jvm.Cond.selects "HeaveSongs" ({ cls := "HeaveSongs", name := "beat", desc := "(I)I" } : Jvm.MethodName) ({ cls := "HeaveSongs", name := "beat", desc := "(I)I" } : Jvm.MethodName)) ∈ gt := gt_mem 389 (by decide +kernel) rfl
theorem tw_347 : (Jvm.Cond.code ({ cls := "HeaveSongs", name := "beat", desc := "(I)I" } : Jvm.MethodName) prog_1_method_2_code (2 : Nat) (Option.some Jvm.ClassFile.FieldType.int)) ∈ gt := gt_mem 390 (by decide +kernel) rfl
theorem tw_348 : (Jvm.Cond.methodLink "HeaveSongs" (78 : Nat) ({ cls := "HeaveSongs$Row", name := "add", desc := "(I)Z" } : Jvm.MethodName)) ∈ gt := gt_mem 391 (by decide +kernel) rfl
theorem tw_349 : (Jvm.Cond.instanceMethod ({ cls := "HeaveSongs$Row", name := "add", desc := "(I)Z" } : Jvm.MethodName)) ∈ gt := gt_mem 392 (by decide +kernel) rfl
theorem tw_350 : (Jvm.Cond.selects "HeaveSongs$Row" ({ cls := "HeaveSongs$Row", name := "add", desc := "(I)Z" } : Jvm.MethodName) ({ cls := "HeaveSongs$Row", name := "add", desc := "(I)Z" } : Jvm.MethodName)) ∈ gt := gt_mem 393 (by decide +kernel) rfl
theorem tw_351 : (Jvm.Cond.code ({ cls := "HeaveSongs$Row", name := "add", desc := "(I)Z" } : Jvm.MethodName) prog_8_method_2_code (2 : Nat) (Option.some Jvm.ClassFile.FieldType.boolean)) ∈ gt := gt_mem 394 (by decide +kernel) rfl
theorem tw_352 : (Jvm.Cond.methodLink "HeaveSongsLaw" (18 : Nat) ({ cls := "HeaveSongs", name := "rest", desc := "()I" } : Jvm.MethodName)) ∈ gt := gt_mem 395 (by decide +kernel) rfl
theorem tw_353 : (Jvm.Cond.instanceMethod ({ cls := "HeaveSongs", name := "rest", desc := "()I" } : Jvm.MethodName)) ∈ gt := gt_mem 396 (by decide +kernel) rfl
theorem tw_354 : (Jvm.Cond.selects "HeaveSongs" ({ cls := "HeaveSongs", name := "rest", desc := "()I" } : Jvm.MethodName) ({ cls := "HeaveSongs", name := "rest", desc := "()I" } : Jvm.MethodName)) ∈ gt := gt_mem 397 (by decide +kernel) rfl
theorem tw_355 : (Jvm.Cond.code ({ cls := "HeaveSongs", name := "rest", desc := "()I" } : Jvm.MethodName) prog_1_method_3_code (2 : Nat) (Option.some Jvm.ClassFile.FieldType.int)) ∈ gt := gt_mem 398 (by decide +kernel) rfl
theorem tw_356 : (Jvm.Cond.methodLink "HeaveSongsLaw" (23 : Nat) ({ cls := "HeaveSongs", name := "song", desc := "()I" } : Jvm.MethodName)) ∈ gt := gt_mem 399 (by decide +kernel) rfl
theorem tw_357 : (Jvm.Cond.instanceMethod ({ cls := "HeaveSongs", name := "song", desc := "()I" } : Jvm.MethodName)) ∈ gt := gt_mem 400 (by decide +kernel) rfl
theorem tw_358 : (Jvm.Cond.selects "HeaveSongs" ({ cls := "HeaveSongs", name := "song", desc := "()I" } : Jvm.MethodName) ({ cls := "HeaveSongs", name := "song", desc := "()I" } : Jvm.MethodName)) ∈ gt := gt_mem 401 (by decide +kernel) rfl
theorem tw_359 : (Jvm.Cond.code ({ cls := "HeaveSongs", name := "song", desc := "()I" } : Jvm.MethodName) prog_1_method_4_code (2 : Nat) (Option.some Jvm.ClassFile.FieldType.int)) ∈ gt := gt_mem 402 (by decide +kernel) rfl
theorem tw_360 : (Jvm.Cond.methodLink "HeaveSongs" (86 : Nat) ({ cls := "java/util/ArrayList", name := "size", desc := "()I" } : Jvm.MethodName)) ∈ gt := gt_mem 403 (by decide +kernel) rfl
theorem tw_361 : (Jvm.Cond.instanceMethod ({ cls := "java/util/ArrayList", name := "size", desc := "()I" } : Jvm.MethodName)) ∈ gt := gt_mem 404 (by decide +kernel) rfl
theorem tw_362 : (Jvm.Cond.selects "java/util/ArrayList" ({ cls := "java/util/ArrayList", name := "size", desc := "()I" } : Jvm.MethodName) ({ cls := "java/util/ArrayList", name := "size", desc := "()I" } : Jvm.MethodName)) ∈ gt := gt_mem 405 (by decide +kernel) rfl
theorem tw_363 : (Jvm.Cond.code ({ cls := "java/util/ArrayList", name := "size", desc := "()I" } : Jvm.MethodName) prog_23_method_8_code (1 : Nat) (Option.some Jvm.ClassFile.FieldType.int)) ∈ gt := gt_mem 406 (by decide +kernel) rfl
theorem tw_364 : (Jvm.Cond.classLink "HeaveSongs" (89 : Nat) "HeaveSongs$Song") ∈ gt := gt_mem 407 (by decide +kernel) rfl
theorem tw_365 : (Jvm.Cond.instantiable "HeaveSongs$Song" (2 : Nat)) ∈ gt := gt_mem 408 (by decide +kernel) rfl
theorem tw_367 : (Jvm.Cond.instanceMethod ({ cls := "HeaveSongs$Song", name := "<init>", desc := "()V" } : Jvm.MethodName)) ∈ gt := gt_mem 410 (by decide +kernel) rfl
theorem tw_368 : (Jvm.Cond.code ({ cls := "HeaveSongs$Song", name := "<init>", desc := "()V" } : Jvm.MethodName) prog_9_method_1_code (1 : Nat) (Option.none : Option Jvm.ClassFile.FieldType)) ∈ gt := gt_mem 411 (by decide +kernel) rfl
theorem tw_369 : (Jvm.Cond.methodLink "HeaveSongs$Song" (3 : Nat) ({ cls := "java/lang/Object", name := "<init>", desc := "()V" } : Jvm.MethodName)) ∈ gt := gt_mem 412 (by decide +kernel) rfl
theorem tw_370 : (Jvm.Cond.classLink "HeaveSongs$Song" (9 : Nat) "HeaveSongs$Row") ∈ gt := gt_mem 413 (by decide +kernel) rfl
theorem tw_372 : (Jvm.Cond.fieldLink "HeaveSongs$Song" (12 : Nat) "HeaveSongs$Song" "verse" "LHeaveSongs$Row;") ∈ gt := gt_mem 415 (by decide +kernel) rfl
theorem tw_373 : (Jvm.Cond.fieldLink "HeaveSongs$Kin" (22 : Nat) "HeaveSongs$Song" "verse" "LHeaveSongs$Row;") ∈ gt := gt_mem 416 (by decide +kernel) rfl
theorem tw_374 : (Jvm.Cond.fieldLink "HeaveSongs" (92 : Nat) "HeaveSongs$Song" "verse" "LHeaveSongs$Row;") ∈ gt := gt_mem 417 (by decide +kernel) rfl
theorem tw_375 : (Jvm.Cond.fieldLink "HeaveSongs$Song" (18 : Nat) "HeaveSongs$Song" "refrain" "LHeaveSongs$Row;") ∈ gt := gt_mem 418 (by decide +kernel) rfl
theorem tw_376 : (Jvm.Cond.fieldLink "HeaveSongs$Kin" (32 : Nat) "HeaveSongs$Song" "refrain" "LHeaveSongs$Row;") ∈ gt := gt_mem 419 (by decide +kernel) rfl
theorem tw_377 : (Jvm.Cond.fieldLink "HeaveSongs" (110 : Nat) "HeaveSongs$Song" "refrain" "LHeaveSongs$Row;") ∈ gt := gt_mem 420 (by decide +kernel) rfl
theorem tw_383 : (Jvm.Cond.methodLink "HeaveSongs" (95 : Nat) ({ cls := "HeaveSongs$Row", name := "take", desc := "(LHeaveSongs$Row;)V" } : Jvm.MethodName)) ∈ gt := gt_mem 426 (by decide +kernel) rfl
theorem tw_384 : (Jvm.Cond.instanceMethod ({ cls := "HeaveSongs$Row", name := "take", desc := "(LHeaveSongs$Row;)V" } : Jvm.MethodName)) ∈ gt := gt_mem 427 (by decide +kernel) rfl
theorem tw_385 : (Jvm.Cond.selects "HeaveSongs$Row" ({ cls := "HeaveSongs$Row", name := "take", desc := "(LHeaveSongs$Row;)V" } : Jvm.MethodName) ({ cls := "HeaveSongs$Row", name := "take", desc := "(LHeaveSongs$Row;)V" } : Jvm.MethodName)) ∈ gt := gt_mem 428 (by decide +kernel) rfl
theorem tw_386 : (Jvm.Cond.code ({ cls := "HeaveSongs$Row", name := "take", desc := "(LHeaveSongs$Row;)V" } : Jvm.MethodName) prog_8_method_3_code (2 : Nat) (Option.none : Option Jvm.ClassFile.FieldType)) ∈ gt := gt_mem 429 (by decide +kernel) rfl
theorem tw_388 : (Jvm.Cond.static ({ cls := "HeaveSongs", name := "copy", desc := "([I[I)V" } : Jvm.MethodName)) ∈ gt := gt_mem 431 (by decide +kernel) rfl
theorem tw_389 : (Jvm.Cond.code ({ cls := "HeaveSongs", name := "copy", desc := "([I[I)V" } : Jvm.MethodName) prog_1_method_40_code (3 : Nat) (Option.none : Option Jvm.ClassFile.FieldType)) ∈ gt := gt_mem 432 (by decide +kernel) rfl
theorem tw_390 : (Jvm.Cond.methodLink "HeaveSongs" (99 : Nat) ({ cls := "java/util/ArrayList", name := "add", desc := "(Ljava/lang/Object;)Z" } : Jvm.MethodName)) ∈ gt := gt_mem 433 (by decide +kernel) rfl
theorem tw_391 : (Jvm.Cond.instanceMethod ({ cls := "java/util/ArrayList", name := "add", desc := "(Ljava/lang/Object;)Z" } : Jvm.MethodName)) ∈ gt := gt_mem 434 (by decide +kernel) rfl
theorem tw_392 : (Jvm.Cond.selects "java/util/ArrayList" ({ cls := "java/util/ArrayList", name := "add", desc := "(Ljava/lang/Object;)Z" } : Jvm.MethodName) ({ cls := "java/util/ArrayList", name := "add", desc := "(Ljava/lang/Object;)Z" } : Jvm.MethodName)) ∈ gt := gt_mem 435 (by decide +kernel) rfl
theorem tw_393 : (Jvm.Cond.code ({ cls := "java/util/ArrayList", name := "add", desc := "(Ljava/lang/Object;)Z" } : Jvm.MethodName) prog_23_method_25_code (2 : Nat) (Option.some Jvm.ClassFile.FieldType.boolean)) ∈ gt := gt_mem 436 (by decide +kernel) rfl
theorem tw_394 : (Jvm.Cond.methodLink "java/util/ArrayList" (131 : Nat) ({ cls := "java/util/ArrayList", name := "add", desc := "(Ljava/lang/Object;[Ljava/lang/Object;I)V" } : Jvm.MethodName)) ∈ gt := gt_mem 437 (by decide +kernel) rfl
theorem tw_396 : (Jvm.Cond.instanceMethod ({ cls := "java/util/ArrayList", name := "add", desc := "(Ljava/lang/Object;[Ljava/lang/Object;I)V" } : Jvm.MethodName)) ∈ gt := gt_mem 439 (by decide +kernel) rfl
theorem tw_397 : (Jvm.Cond.code ({ cls := "java/util/ArrayList", name := "add", desc := "(Ljava/lang/Object;[Ljava/lang/Object;I)V" } : Jvm.MethodName) prog_23_method_24_code (4 : Nat) (Option.none : Option Jvm.ClassFile.FieldType)) ∈ gt := gt_mem 440 (by decide +kernel) rfl
theorem tw_398 : (Jvm.Cond.methodLink "java/util/ArrayList" (129 : Nat) ({ cls := "java/util/ArrayList", name := "grow", desc := "()[Ljava/lang/Object;" } : Jvm.MethodName)) ∈ gt := gt_mem 441 (by decide +kernel) rfl
theorem tw_400 : (Jvm.Cond.instanceMethod ({ cls := "java/util/ArrayList", name := "grow", desc := "()[Ljava/lang/Object;" } : Jvm.MethodName)) ∈ gt := gt_mem 443 (by decide +kernel) rfl
theorem tw_401 : (Jvm.Cond.code ({ cls := "java/util/ArrayList", name := "grow", desc := "()[Ljava/lang/Object;" } : Jvm.MethodName) prog_23_method_7_code (1 : Nat) (Option.some (Jvm.ClassFile.FieldType.array (Jvm.ClassFile.FieldType.object "java/lang/Object")))) ∈ gt := gt_mem 444 (by decide +kernel) rfl
theorem tw_402 : (Jvm.Cond.methodLink "java/util/ArrayList" (69 : Nat) ({ cls := "java/util/ArrayList", name := "grow", desc := "(I)[Ljava/lang/Object;" } : Jvm.MethodName)) ∈ gt := gt_mem 445 (by decide +kernel) rfl
theorem tw_404 : (Jvm.Cond.instanceMethod ({ cls := "java/util/ArrayList", name := "grow", desc := "(I)[Ljava/lang/Object;" } : Jvm.MethodName)) ∈ gt := gt_mem 447 (by decide +kernel) rfl
theorem tw_405 : (Jvm.Cond.code ({ cls := "java/util/ArrayList", name := "grow", desc := "(I)[Ljava/lang/Object;" } : Jvm.MethodName) prog_23_method_6_code (4 : Nat) (Option.some (Jvm.ClassFile.FieldType.array (Jvm.ClassFile.FieldType.object "java/lang/Object")))) ∈ gt := gt_mem 448 (by decide +kernel) rfl
theorem tw_406 : (Jvm.Cond.methodLink "java/util/ArrayList" (73 : Nat) ({ cls := "jdk/internal/util/ArraysSupport", name := "newLength", desc := "(III)I" } : Jvm.MethodName)) ∈ gt := gt_mem 449 (by decide +kernel) rfl
theorem tw_407 : (Jvm.Cond.static ({ cls := "jdk/internal/util/ArraysSupport", name := "newLength", desc := "(III)I" } : Jvm.MethodName)) ∈ gt := gt_mem 450 (by decide +kernel) rfl
theorem tw_408 : (Jvm.Cond.code ({ cls := "jdk/internal/util/ArraysSupport", name := "newLength", desc := "(III)I" } : Jvm.MethodName) prog_30_method_27_code (4 : Nat) (Option.some Jvm.ClassFile.FieldType.int)) ∈ gt := gt_mem 451 (by decide +kernel) rfl
theorem tw_409 : (Jvm.Cond.methodLink "jdk/internal/util/ArraysSupport" (194 : Nat) ({ cls := "java/lang/Math", name := "max", desc := "(II)I" } : Jvm.MethodName)) ∈ gt := gt_mem 452 (by decide +kernel) rfl
theorem tw_410 : (Jvm.Cond.static ({ cls := "java/lang/Math", name := "max", desc := "(II)I" } : Jvm.MethodName)) ∈ gt := gt_mem 453 (by decide +kernel) rfl
theorem tw_411 : (Jvm.Cond.code ({ cls := "java/lang/Math", name := "max", desc := "(II)I" } : Jvm.MethodName) prog_19_method_65_code (2 : Nat) (Option.some Jvm.ClassFile.FieldType.int)) ∈ gt := gt_mem 454 (by decide +kernel) rfl
theorem tw_412 : (Jvm.Cond.constant "jdk/internal/util/ArraysSupport" (200 : Nat) (2147483639 : Int32)) ∈ gt := gt_mem 455 (by decide +kernel) rfl
theorem tw_413 : (Jvm.Cond.methodLink "jdk/internal/util/ArraysSupport" (201 : Nat) ({ cls := "jdk/internal/util/ArraysSupport", name := "hugeLength", desc := "(II)I" } : Jvm.MethodName)) ∈ gt := gt_mem 456 (by decide +kernel) rfl
theorem tw_414 : (Jvm.Cond.static ({ cls := "jdk/internal/util/ArraysSupport", name := "hugeLength", desc := "(II)I" } : Jvm.MethodName)) ∈ gt := gt_mem 457 (by decide +kernel) rfl
theorem tw_415 : (Jvm.Cond.code ({ cls := "jdk/internal/util/ArraysSupport", name := "hugeLength", desc := "(II)I" } : Jvm.MethodName) prog_30_method_28_code (3 : Nat) (Option.some Jvm.ClassFile.FieldType.int)) ∈ gt := gt_mem 458 (by decide +kernel) rfl
theorem tw_416 : (Jvm.Cond.methodLink "java/util/ArrayList" (66 : Nat) ({ cls := "java/util/Arrays", name := "copyOf", desc := "([Ljava/lang/Object;I)[Ljava/lang/Object;" } : Jvm.MethodName)) ∈ gt := gt_mem 459 (by decide +kernel) rfl
theorem tw_417 : (Jvm.Cond.static ({ cls := "java/util/Arrays", name := "copyOf", desc := "([Ljava/lang/Object;I)[Ljava/lang/Object;" } : Jvm.MethodName)) ∈ gt := gt_mem 460 (by decide +kernel) rfl
theorem tw_418 : (Jvm.Cond.code ({ cls := "java/util/Arrays", name := "copyOf", desc := "([Ljava/lang/Object;I)[Ljava/lang/Object;" } : Jvm.MethodName) prog_24_method_119_code (2 : Nat) (Option.some (Jvm.ClassFile.FieldType.array (Jvm.ClassFile.FieldType.object "java/lang/Object")))) ∈ gt := gt_mem 461 (by decide +kernel) rfl
theorem tw_419 : (Jvm.Cond.methodLink "java/util/Arrays" (86 : Nat) ({ cls := "java/lang/Object", name := "getClass", desc := "()Ljava/lang/Class;" } : Jvm.MethodName)) ∈ gt := gt_mem 462 (by decide +kernel) rfl
theorem tw_420 : (Jvm.Cond.instanceMethod ({ cls := "java/lang/Object", name := "getClass", desc := "()Ljava/lang/Class;" } : Jvm.MethodName)) ∈ gt := gt_mem 463 (by decide +kernel) rfl
theorem tw_421 : (Jvm.Cond.sameMethod "java/lang/Object" "java/lang/Object" "getClass" "()Ljava/lang/Class;") ∈ gt := gt_mem 464 (by decide +kernel) rfl
theorem tw_422 : (Jvm.Cond.selects "HeaveSongs" ({ cls := "java/lang/Object", name := "getClass", desc := "()Ljava/lang/Class;" } : Jvm.MethodName) ({ cls := "java/lang/Object", name := "getClass", desc := "()Ljava/lang/Class;" } : Jvm.MethodName)) ∈ gt := gt_mem 465 (by decide +kernel) rfl
theorem tw_423 : (Jvm.Cond.selects "HeaveSongs$Hands" ({ cls := "java/lang/Object", name := "getClass", desc := "()Ljava/lang/Class;" } : Jvm.MethodName) ({ cls := "java/lang/Object", name := "getClass", desc := "()Ljava/lang/Class;" } : Jvm.MethodName)) ∈ gt := gt_mem 466 (by decide +kernel) rfl
theorem tw_424 : (Jvm.Cond.selects "HeaveSongs$Haul" ({ cls := "java/lang/Object", name := "getClass", desc := "()Ljava/lang/Class;" } : Jvm.MethodName) ({ cls := "java/lang/Object", name := "getClass", desc := "()Ljava/lang/Class;" } : Jvm.MethodName)) ∈ gt := gt_mem 467 (by decide +kernel) rfl
theorem tw_425 : (Jvm.Cond.selects "HeaveSongs$Kin" ({ cls := "java/lang/Object", name := "getClass", desc := "()Ljava/lang/Class;" } : Jvm.MethodName) ({ cls := "java/lang/Object", name := "getClass", desc := "()Ljava/lang/Class;" } : Jvm.MethodName)) ∈ gt := gt_mem 468 (by decide +kernel) rfl
theorem tw_426 : (Jvm.Cond.selects "HeaveSongs$LateSearch" ({ cls := "java/lang/Object", name := "getClass", desc := "()Ljava/lang/Class;" } : Jvm.MethodName) ({ cls := "java/lang/Object", name := "getClass", desc := "()Ljava/lang/Class;" } : Jvm.MethodName)) ∈ gt := gt_mem 469 (by decide +kernel) rfl
theorem tw_427 : (Jvm.Cond.selects "HeaveSongs$LineMaker" ({ cls := "java/lang/Object", name := "getClass", desc := "()Ljava/lang/Class;" } : Jvm.MethodName) ({ cls := "java/lang/Object", name := "getClass", desc := "()Ljava/lang/Class;" } : Jvm.MethodName)) ∈ gt := gt_mem 470 (by decide +kernel) rfl
theorem tw_428 : (Jvm.Cond.selects "HeaveSongs$Marks" ({ cls := "java/lang/Object", name := "getClass", desc := "()Ljava/lang/Class;" } : Jvm.MethodName) ({ cls := "java/lang/Object", name := "getClass", desc := "()Ljava/lang/Class;" } : Jvm.MethodName)) ∈ gt := gt_mem 471 (by decide +kernel) rfl
theorem tw_429 : (Jvm.Cond.selects "HeaveSongs$Row" ({ cls := "java/lang/Object", name := "getClass", desc := "()Ljava/lang/Class;" } : Jvm.MethodName) ({ cls := "java/lang/Object", name := "getClass", desc := "()Ljava/lang/Class;" } : Jvm.MethodName)) ∈ gt := gt_mem 472 (by decide +kernel) rfl
theorem tw_430 : (Jvm.Cond.selects "HeaveSongs$Song" ({ cls := "java/lang/Object", name := "getClass", desc := "()Ljava/lang/Class;" } : Jvm.MethodName) ({ cls := "java/lang/Object", name := "getClass", desc := "()Ljava/lang/Class;" } : Jvm.MethodName)) ∈ gt := gt_mem 473 (by decide +kernel) rfl
theorem tw_431 : (Jvm.Cond.selects "HeaveSongs$Task" ({ cls := "java/lang/Object", name := "getClass", desc := "()Ljava/lang/Class;" } : Jvm.MethodName) ({ cls := "java/lang/Object", name := "getClass", desc := "()Ljava/lang/Class;" } : Jvm.MethodName)) ∈ gt := gt_mem 474 (by decide +kernel) rfl
theorem tw_432 : (Jvm.Cond.selects "HeaveSongs$TaskSearch" ({ cls := "java/lang/Object", name := "getClass", desc := "()Ljava/lang/Class;" } : Jvm.MethodName) ({ cls := "java/lang/Object", name := "getClass", desc := "()Ljava/lang/Class;" } : Jvm.MethodName)) ∈ gt := gt_mem 475 (by decide +kernel) rfl
theorem tw_433 : (Jvm.Cond.selects "HeaveSongs$Word" ({ cls := "java/lang/Object", name := "getClass", desc := "()Ljava/lang/Class;" } : Jvm.MethodName) ({ cls := "java/lang/Object", name := "getClass", desc := "()Ljava/lang/Class;" } : Jvm.MethodName)) ∈ gt := gt_mem 476 (by decide +kernel) rfl
theorem tw_434 : (Jvm.Cond.selects "HeaveSongsModel" ({ cls := "java/lang/Object", name := "getClass", desc := "()Ljava/lang/Class;" } : Jvm.MethodName) ({ cls := "java/lang/Object", name := "getClass", desc := "()Ljava/lang/Class;" } : Jvm.MethodName)) ∈ gt := gt_mem 477 (by decide +kernel) rfl
theorem tw_435 : (Jvm.Cond.selects "java/util/ArrayList" ({ cls := "java/lang/Object", name := "getClass", desc := "()Ljava/lang/Class;" } : Jvm.MethodName) ({ cls := "java/lang/Object", name := "getClass", desc := "()Ljava/lang/Class;" } : Jvm.MethodName)) ∈ gt := gt_mem 478 (by decide +kernel) rfl
theorem tw_437 : (Jvm.Cond.methodLink "java/util/Arrays" (300 : Nat) ({ cls := "java/util/Arrays", name := "copyOf", desc := "([Ljava/lang/Object;ILjava/lang/Class;)[Ljava/lang/Object;" } : Jvm.MethodName)) ∈ gt := gt_mem 480 (by decide +kernel) rfl
theorem tw_438 : (Jvm.Cond.static ({ cls := "java/util/Arrays", name := "copyOf", desc := "([Ljava/lang/Object;ILjava/lang/Class;)[Ljava/lang/Object;" } : Jvm.MethodName)) ∈ gt := gt_mem 481 (by decide +kernel) rfl
theorem tw_439 : (Jvm.Cond.code ({ cls := "java/util/Arrays", name := "copyOf", desc := "([Ljava/lang/Object;ILjava/lang/Class;)[Ljava/lang/Object;" } : Jvm.MethodName) prog_24_method_120_code (4 : Nat) (Option.some (Jvm.ClassFile.FieldType.array (Jvm.ClassFile.FieldType.object "java/lang/Object")))) ∈ gt := gt_mem 482 (by decide +kernel) rfl
theorem tw_440 : (Jvm.Cond.classLink "java/util/Arrays" (110 : Nat) "[Ljava/lang/Object;") ∈ gt := gt_mem 483 (by decide +kernel) rfl
theorem tw_442 : (Jvm.Cond.classLink "java/util/Arrays" (2 : Nat) "java/lang/Object") ∈ gt := gt_mem 485 (by decide +kernel) rfl
theorem tw_443 : (Jvm.Cond.methodLink "java/util/Arrays" (304 : Nat) ({ cls := "java/lang/Math", name := "min", desc := "(II)I" } : Jvm.MethodName)) ∈ gt := gt_mem 486 (by decide +kernel) rfl
theorem tw_444 : (Jvm.Cond.static ({ cls := "java/lang/Math", name := "min", desc := "(II)I" } : Jvm.MethodName)) ∈ gt := gt_mem 487 (by decide +kernel) rfl
theorem tw_445 : (Jvm.Cond.code ({ cls := "java/lang/Math", name := "min", desc := "(II)I" } : Jvm.MethodName) prog_19_method_69_code (2 : Nat) (Option.some Jvm.ClassFile.FieldType.int)) ∈ gt := gt_mem 488 (by decide +kernel) rfl
theorem tw_446 : (Jvm.Cond.methodLink "java/util/Arrays" (150 : Nat) ({ cls := "java/lang/System", name := "arraycopy", desc := "(Ljava/lang/Object;ILjava/lang/Object;II)V" } : Jvm.MethodName)) ∈ gt := gt_mem 489 (by decide +kernel) rfl
theorem tw_447 : (Jvm.Cond.static ({ cls := "java/lang/System", name := "arraycopy", desc := "(Ljava/lang/Object;ILjava/lang/Object;II)V" } : Jvm.MethodName)) ∈ gt := gt_mem 490 (by decide +kernel) rfl
theorem tw_449 : (Jvm.Cond.methodLink "java/util/ArrayList" (79 : Nat) ({ cls := "java/lang/Math", name := "max", desc := "(II)I" } : Jvm.MethodName)) ∈ gt := gt_mem 492 (by decide +kernel) rfl
theorem tw_450 : (Jvm.Cond.classLink "java/util/ArrayList" (7 : Nat) "java/lang/Object") ∈ gt := gt_mem 493 (by decide +kernel) rfl
theorem tw_451 : (Jvm.Cond.methodLink "HeaveSongsLaw" (27 : Nat) ({ cls := "HeaveSongs", name := "refrain", desc := "(I)I" } : Jvm.MethodName)) ∈ gt := gt_mem 494 (by decide +kernel) rfl
theorem tw_452 : (Jvm.Cond.instanceMethod ({ cls := "HeaveSongs", name := "refrain", desc := "(I)I" } : Jvm.MethodName)) ∈ gt := gt_mem 495 (by decide +kernel) rfl
theorem tw_453 : (Jvm.Cond.selects "HeaveSongs" ({ cls := "HeaveSongs", name := "refrain", desc := "(I)I" } : Jvm.MethodName) ({ cls := "HeaveSongs", name := "refrain", desc := "(I)I" } : Jvm.MethodName)) ∈ gt := gt_mem 496 (by decide +kernel) rfl
theorem tw_454 : (Jvm.Cond.code ({ cls := "HeaveSongs", name := "refrain", desc := "(I)I" } : Jvm.MethodName) prog_1_method_5_code (3 : Nat) (Option.some Jvm.ClassFile.FieldType.int)) ∈ gt := gt_mem 497 (by decide +kernel) rfl
theorem tw_455 : (Jvm.Cond.methodLink "HeaveSongs" (106 : Nat) ({ cls := "HeaveSongs", name := "songOf", desc := "(I)LHeaveSongs$Song;" } : Jvm.MethodName)) ∈ gt := gt_mem 498 (by decide +kernel) rfl
theorem tw_457 : (Jvm.Cond.instanceMethod ({ cls := "HeaveSongs", name := "songOf", desc := "(I)LHeaveSongs$Song;" } : Jvm.MethodName)) ∈ gt := gt_mem 500 (by decide +kernel) rfl
theorem tw_458 : (Jvm.Cond.code ({ cls := "HeaveSongs", name := "songOf", desc := "(I)LHeaveSongs$Song;" } : Jvm.MethodName) prog_1_method_41_code (2 : Nat) (Option.some (Jvm.ClassFile.FieldType.object "HeaveSongs$Song"))) ∈ gt := gt_mem 501 (by decide +kernel) rfl
theorem tw_459 : (Jvm.Cond.methodLink "HeaveSongs" (113 : Nat) ({ cls := "HeaveSongs", name := "within", desc := "(III)Z" } : Jvm.MethodName)) ∈ gt := gt_mem 502 (by decide +kernel) rfl
theorem tw_460 : (Jvm.Cond.static ({ cls := "HeaveSongs", name := "within", desc := "(III)Z" } : Jvm.MethodName)) ∈ gt := gt_mem 503 (by decide +kernel) rfl
theorem tw_461 : (Jvm.Cond.code ({ cls := "HeaveSongs", name := "within", desc := "(III)Z" } : Jvm.MethodName) prog_1_method_35_code (3 : Nat) (Option.some Jvm.ClassFile.FieldType.boolean)) ∈ gt := gt_mem 504 (by decide +kernel) rfl
theorem tw_462 : (Jvm.Cond.methodLink "HeaveSongs" (203 : Nat) ({ cls := "java/util/ArrayList", name := "get", desc := "(I)Ljava/lang/Object;" } : Jvm.MethodName)) ∈ gt := gt_mem 505 (by decide +kernel) rfl
theorem tw_463 : (Jvm.Cond.instanceMethod ({ cls := "java/util/ArrayList", name := "get", desc := "(I)Ljava/lang/Object;" } : Jvm.MethodName)) ∈ gt := gt_mem 506 (by decide +kernel) rfl
theorem tw_464 : (Jvm.Cond.selects "java/util/ArrayList" ({ cls := "java/util/ArrayList", name := "get", desc := "(I)Ljava/lang/Object;" } : Jvm.MethodName) ({ cls := "java/util/ArrayList", name := "get", desc := "(I)Ljava/lang/Object;" } : Jvm.MethodName)) ∈ gt := gt_mem 507 (by decide +kernel) rfl
theorem tw_465 : (Jvm.Cond.code ({ cls := "java/util/ArrayList", name := "get", desc := "(I)Ljava/lang/Object;" } : Jvm.MethodName) prog_23_method_20_code (2 : Nat) (Option.some (Jvm.ClassFile.FieldType.object "java/lang/Object"))) ∈ gt := gt_mem 508 (by decide +kernel) rfl
theorem tw_466 : (Jvm.Cond.methodLink "java/util/ArrayList" (118 : Nat) ({ cls := "java/util/Objects", name := "checkIndex", desc := "(II)I" } : Jvm.MethodName)) ∈ gt := gt_mem 509 (by decide +kernel) rfl
theorem tw_467 : (Jvm.Cond.static ({ cls := "java/util/Objects", name := "checkIndex", desc := "(II)I" } : Jvm.MethodName)) ∈ gt := gt_mem 510 (by decide +kernel) rfl
theorem tw_468 : (Jvm.Cond.code ({ cls := "java/util/Objects", name := "checkIndex", desc := "(II)I" } : Jvm.MethodName) prog_27_method_17_code (2 : Nat) (Option.some Jvm.ClassFile.FieldType.int)) ∈ gt := gt_mem 511 (by decide +kernel) rfl
theorem tw_469 : (Jvm.Cond.methodLink "java/util/Objects" (105 : Nat) ({ cls := "jdk/internal/util/Preconditions", name := "checkIndex", desc := "(IILjava/util/function/BiFunction;)I" } : Jvm.MethodName)) ∈ gt := gt_mem 512 (by decide +kernel) rfl
theorem tw_470 : (Jvm.Cond.static ({ cls := "jdk/internal/util/Preconditions", name := "checkIndex", desc := "(IILjava/util/function/BiFunction;)I" } : Jvm.MethodName)) ∈ gt := gt_mem 513 (by decide +kernel) rfl
theorem tw_471 : (Jvm.Cond.code ({ cls := "jdk/internal/util/Preconditions", name := "checkIndex", desc := "(IILjava/util/function/BiFunction;)I" } : Jvm.MethodName) prog_31_method_11_code (3 : Nat) (Option.some Jvm.ClassFile.FieldType.int)) ∈ gt := gt_mem 514 (by decide +kernel) rfl
theorem tw_472 : (Jvm.Cond.methodLink "java/util/ArrayList" (123 : Nat) ({ cls := "java/util/ArrayList", name := "elementData", desc := "(I)Ljava/lang/Object;" } : Jvm.MethodName)) ∈ gt := gt_mem 515 (by decide +kernel) rfl
theorem tw_473 : (Jvm.Cond.instanceMethod ({ cls := "java/util/ArrayList", name := "elementData", desc := "(I)Ljava/lang/Object;" } : Jvm.MethodName)) ∈ gt := gt_mem 516 (by decide +kernel) rfl
theorem tw_474 : (Jvm.Cond.selects "java/util/ArrayList" ({ cls := "java/util/ArrayList", name := "elementData", desc := "(I)Ljava/lang/Object;" } : Jvm.MethodName) ({ cls := "java/util/ArrayList", name := "elementData", desc := "(I)Ljava/lang/Object;" } : Jvm.MethodName)) ∈ gt := gt_mem 517 (by decide +kernel) rfl
theorem tw_475 : (Jvm.Cond.code ({ cls := "java/util/ArrayList", name := "elementData", desc := "(I)Ljava/lang/Object;" } : Jvm.MethodName) prog_23_method_18_code (2 : Nat) (Option.some (Jvm.ClassFile.FieldType.object "java/lang/Object"))) ∈ gt := gt_mem 518 (by decide +kernel) rfl
theorem tw_476 : (Jvm.Cond.methodLink "HeaveSongsLaw" (31 : Nat) ({ cls := "HeaveSongs", name := "beatAt", desc := "(II)I" } : Jvm.MethodName)) ∈ gt := gt_mem 519 (by decide +kernel) rfl
theorem tw_477 : (Jvm.Cond.instanceMethod ({ cls := "HeaveSongs", name := "beatAt", desc := "(II)I" } : Jvm.MethodName)) ∈ gt := gt_mem 520 (by decide +kernel) rfl
theorem tw_478 : (Jvm.Cond.selects "HeaveSongs" ({ cls := "HeaveSongs", name := "beatAt", desc := "(II)I" } : Jvm.MethodName) ({ cls := "HeaveSongs", name := "beatAt", desc := "(II)I" } : Jvm.MethodName)) ∈ gt := gt_mem 521 (by decide +kernel) rfl
theorem tw_479 : (Jvm.Cond.code ({ cls := "HeaveSongs", name := "beatAt", desc := "(II)I" } : Jvm.MethodName) prog_1_method_6_code (4 : Nat) (Option.some Jvm.ClassFile.FieldType.int)) ∈ gt := gt_mem 522 (by decide +kernel) rfl
theorem tw_480 : (Jvm.Cond.methodLink "HeaveSongs" (117 : Nat) ({ cls := "HeaveSongs$Song", name := "sungAt", desc := "(I)I" } : Jvm.MethodName)) ∈ gt := gt_mem 523 (by decide +kernel) rfl
theorem tw_481 : (Jvm.Cond.instanceMethod ({ cls := "HeaveSongs$Song", name := "sungAt", desc := "(I)I" } : Jvm.MethodName)) ∈ gt := gt_mem 524 (by decide +kernel) rfl
theorem tw_482 : (Jvm.Cond.selects "HeaveSongs$Song" ({ cls := "HeaveSongs$Song", name := "sungAt", desc := "(I)I" } : Jvm.MethodName) ({ cls := "HeaveSongs$Song", name := "sungAt", desc := "(I)I" } : Jvm.MethodName)) ∈ gt := gt_mem 525 (by decide +kernel) rfl
theorem tw_483 : (Jvm.Cond.code ({ cls := "HeaveSongs$Song", name := "sungAt", desc := "(I)I" } : Jvm.MethodName) prog_9_method_2_code (4 : Nat) (Option.some Jvm.ClassFile.FieldType.int)) ∈ gt := gt_mem 526 (by decide +kernel) rfl
theorem tw_484 : (Jvm.Cond.methodLink "HeaveSongsLaw" (36 : Nat) ({ cls := "HeaveSongs", name := "hand", desc := "(IIII)I" } : Jvm.MethodName)) ∈ gt := gt_mem 527 (by decide +kernel) rfl
theorem tw_485 : (Jvm.Cond.instanceMethod ({ cls := "HeaveSongs", name := "hand", desc := "(IIII)I" } : Jvm.MethodName)) ∈ gt := gt_mem 528 (by decide +kernel) rfl
theorem tw_486 : (Jvm.Cond.selects "HeaveSongs" ({ cls := "HeaveSongs", name := "hand", desc := "(IIII)I" } : Jvm.MethodName) ({ cls := "HeaveSongs", name := "hand", desc := "(IIII)I" } : Jvm.MethodName)) ∈ gt := gt_mem 529 (by decide +kernel) rfl
theorem tw_487 : (Jvm.Cond.code ({ cls := "HeaveSongs", name := "hand", desc := "(IIII)I" } : Jvm.MethodName) prog_1_method_7_code (5 : Nat) (Option.some Jvm.ClassFile.FieldType.int)) ∈ gt := gt_mem 530 (by decide +kernel) rfl
theorem tw_488 : (Jvm.Cond.methodLink "HeaveSongs" (121 : Nat) ({ cls := "HeaveSongs$Hands", name := "add", desc := "(IIII)Z" } : Jvm.MethodName)) ∈ gt := gt_mem 531 (by decide +kernel) rfl
theorem tw_489 : (Jvm.Cond.instanceMethod ({ cls := "HeaveSongs$Hands", name := "add", desc := "(IIII)Z" } : Jvm.MethodName)) ∈ gt := gt_mem 532 (by decide +kernel) rfl
theorem tw_490 : (Jvm.Cond.selects "HeaveSongs$Hands" ({ cls := "HeaveSongs$Hands", name := "add", desc := "(IIII)Z" } : Jvm.MethodName) ({ cls := "HeaveSongs$Hands", name := "add", desc := "(IIII)Z" } : Jvm.MethodName)) ∈ gt := gt_mem 533 (by decide +kernel) rfl
theorem tw_491 : (Jvm.Cond.code ({ cls := "HeaveSongs$Hands", name := "add", desc := "(IIII)Z" } : Jvm.MethodName) prog_2_method_4_code (5 : Nat) (Option.some Jvm.ClassFile.FieldType.boolean)) ∈ gt := gt_mem 534 (by decide +kernel) rfl
theorem tw_492 : (Jvm.Cond.methodLink "HeaveSongsLaw" (41 : Nat) ({ cls := "HeaveSongs", name := "late", desc := "(II)I" } : Jvm.MethodName)) ∈ gt := gt_mem 535 (by decide +kernel) rfl
theorem tw_493 : (Jvm.Cond.instanceMethod ({ cls := "HeaveSongs", name := "late", desc := "(II)I" } : Jvm.MethodName)) ∈ gt := gt_mem 536 (by decide +kernel) rfl
theorem tw_494 : (Jvm.Cond.selects "HeaveSongs" ({ cls := "HeaveSongs", name := "late", desc := "(II)I" } : Jvm.MethodName) ({ cls := "HeaveSongs", name := "late", desc := "(II)I" } : Jvm.MethodName)) ∈ gt := gt_mem 537 (by decide +kernel) rfl
theorem tw_495 : (Jvm.Cond.code ({ cls := "HeaveSongs", name := "late", desc := "(II)I" } : Jvm.MethodName) prog_1_method_8_code (4 : Nat) (Option.some Jvm.ClassFile.FieldType.int)) ∈ gt := gt_mem 538 (by decide +kernel) rfl
theorem tw_496 : (Jvm.Cond.methodLink "HeaveSongs" (125 : Nat) ({ cls := "HeaveSongs$Hands", name := "has", desc := "(I)Z" } : Jvm.MethodName)) ∈ gt := gt_mem 539 (by decide +kernel) rfl
theorem tw_497 : (Jvm.Cond.instanceMethod ({ cls := "HeaveSongs$Hands", name := "has", desc := "(I)Z" } : Jvm.MethodName)) ∈ gt := gt_mem 540 (by decide +kernel) rfl
theorem tw_498 : (Jvm.Cond.selects "HeaveSongs$Hands" ({ cls := "HeaveSongs$Hands", name := "has", desc := "(I)Z" } : Jvm.MethodName) ({ cls := "HeaveSongs$Hands", name := "has", desc := "(I)Z" } : Jvm.MethodName)) ∈ gt := gt_mem 541 (by decide +kernel) rfl
theorem tw_499 : (Jvm.Cond.code ({ cls := "HeaveSongs$Hands", name := "has", desc := "(I)Z" } : Jvm.MethodName) prog_2_method_2_code (2 : Nat) (Option.some Jvm.ClassFile.FieldType.boolean)) ∈ gt := gt_mem 542 (by decide +kernel) rfl
theorem tw_501 : (Jvm.Cond.methodLink "HeaveSongsLaw" (45 : Nat) ({ cls := "HeaveSongs", name := "crew", desc := "(I)I" } : Jvm.MethodName)) ∈ gt := gt_mem 544 (by decide +kernel) rfl
theorem tw_502 : (Jvm.Cond.instanceMethod ({ cls := "HeaveSongs", name := "crew", desc := "(I)I" } : Jvm.MethodName)) ∈ gt := gt_mem 545 (by decide +kernel) rfl
theorem tw_503 : (Jvm.Cond.selects "HeaveSongs" ({ cls := "HeaveSongs", name := "crew", desc := "(I)I" } : Jvm.MethodName) ({ cls := "HeaveSongs", name := "crew", desc := "(I)I" } : Jvm.MethodName)) ∈ gt := gt_mem 546 (by decide +kernel) rfl
theorem tw_504 : (Jvm.Cond.code ({ cls := "HeaveSongs", name := "crew", desc := "(I)I" } : Jvm.MethodName) prog_1_method_9_code (3 : Nat) (Option.some Jvm.ClassFile.FieldType.int)) ∈ gt := gt_mem 547 (by decide +kernel) rfl
theorem tw_505 : (Jvm.Cond.methodLink "HeaveSongs" (132 : Nat) ({ cls := "HeaveSongs$Hands", name := "allSet", desc := "()I" } : Jvm.MethodName)) ∈ gt := gt_mem 548 (by decide +kernel) rfl
theorem tw_506 : (Jvm.Cond.instanceMethod ({ cls := "HeaveSongs$Hands", name := "allSet", desc := "()I" } : Jvm.MethodName)) ∈ gt := gt_mem 549 (by decide +kernel) rfl
theorem tw_507 : (Jvm.Cond.selects "HeaveSongs$Hands" ({ cls := "HeaveSongs$Hands", name := "allSet", desc := "()I" } : Jvm.MethodName) ({ cls := "HeaveSongs$Hands", name := "allSet", desc := "()I" } : Jvm.MethodName)) ∈ gt := gt_mem 550 (by decide +kernel) rfl
theorem tw_508 : (Jvm.Cond.code ({ cls := "HeaveSongs$Hands", name := "allSet", desc := "()I" } : Jvm.MethodName) prog_2_method_3_code (1 : Nat) (Option.some Jvm.ClassFile.FieldType.int)) ∈ gt := gt_mem 551 (by decide +kernel) rfl
theorem tw_509 : (Jvm.Cond.methodLink "HeaveSongsLaw" (49 : Nat) ({ cls := "HeaveSongs", name := "floor", desc := "(I)I" } : Jvm.MethodName)) ∈ gt := gt_mem 552 (by decide +kernel) rfl
theorem tw_510 : (Jvm.Cond.instanceMethod ({ cls := "HeaveSongs", name := "floor", desc := "(I)I" } : Jvm.MethodName)) ∈ gt := gt_mem 553 (by decide +kernel) rfl
theorem tw_511 : (Jvm.Cond.selects "HeaveSongs" ({ cls := "HeaveSongs", name := "floor", desc := "(I)I" } : Jvm.MethodName) ({ cls := "HeaveSongs", name := "floor", desc := "(I)I" } : Jvm.MethodName)) ∈ gt := gt_mem 554 (by decide +kernel) rfl
theorem tw_512 : (Jvm.Cond.code ({ cls := "HeaveSongs", name := "floor", desc := "(I)I" } : Jvm.MethodName) prog_1_method_10_code (3 : Nat) (Option.some Jvm.ClassFile.FieldType.int)) ∈ gt := gt_mem 555 (by decide +kernel) rfl
theorem tw_513 : (Jvm.Cond.methodLink "HeaveSongsLaw" (53 : Nat) ({ cls := "HeaveSongs", name := "now", desc := "(I)I" } : Jvm.MethodName)) ∈ gt := gt_mem 556 (by decide +kernel) rfl
theorem tw_514 : (Jvm.Cond.instanceMethod ({ cls := "HeaveSongs", name := "now", desc := "(I)I" } : Jvm.MethodName)) ∈ gt := gt_mem 557 (by decide +kernel) rfl
theorem tw_515 : (Jvm.Cond.selects "HeaveSongs" ({ cls := "HeaveSongs", name := "now", desc := "(I)I" } : Jvm.MethodName) ({ cls := "HeaveSongs", name := "now", desc := "(I)I" } : Jvm.MethodName)) ∈ gt := gt_mem 558 (by decide +kernel) rfl
theorem tw_516 : (Jvm.Cond.code ({ cls := "HeaveSongs", name := "now", desc := "(I)I" } : Jvm.MethodName) prog_1_method_11_code (2 : Nat) (Option.some Jvm.ClassFile.FieldType.int)) ∈ gt := gt_mem 559 (by decide +kernel) rfl
theorem tw_517 : (Jvm.Cond.methodLink "HeaveSongsLaw" (57 : Nat) ({ cls := "HeaveSongs", name := "pause", desc := "(I)I" } : Jvm.MethodName)) ∈ gt := gt_mem 560 (by decide +kernel) rfl
theorem tw_518 : (Jvm.Cond.instanceMethod ({ cls := "HeaveSongs", name := "pause", desc := "(I)I" } : Jvm.MethodName)) ∈ gt := gt_mem 561 (by decide +kernel) rfl
theorem tw_519 : (Jvm.Cond.selects "HeaveSongs" ({ cls := "HeaveSongs", name := "pause", desc := "(I)I" } : Jvm.MethodName) ({ cls := "HeaveSongs", name := "pause", desc := "(I)I" } : Jvm.MethodName)) ∈ gt := gt_mem 562 (by decide +kernel) rfl
theorem tw_520 : (Jvm.Cond.code ({ cls := "HeaveSongs", name := "pause", desc := "(I)I" } : Jvm.MethodName) prog_1_method_12_code (2 : Nat) (Option.some Jvm.ClassFile.FieldType.int)) ∈ gt := gt_mem 563 (by decide +kernel) rfl
theorem tw_521 : (Jvm.Cond.methodLink "HeaveSongs" (144 : Nat) ({ cls := "HeaveSongs$Hands", name := "restFor", desc := "(I[I)V" } : Jvm.MethodName)) ∈ gt := gt_mem 564 (by decide +kernel) rfl
theorem tw_522 : (Jvm.Cond.instanceMethod ({ cls := "HeaveSongs$Hands", name := "restFor", desc := "(I[I)V" } : Jvm.MethodName)) ∈ gt := gt_mem 565 (by decide +kernel) rfl
theorem tw_523 : (Jvm.Cond.selects "HeaveSongs$Hands" ({ cls := "HeaveSongs$Hands", name := "restFor", desc := "(I[I)V" } : Jvm.MethodName) ({ cls := "HeaveSongs$Hands", name := "restFor", desc := "(I[I)V" } : Jvm.MethodName)) ∈ gt := gt_mem 566 (by decide +kernel) rfl
theorem tw_524 : (Jvm.Cond.code ({ cls := "HeaveSongs$Hands", name := "restFor", desc := "(I[I)V" } : Jvm.MethodName) prog_2_method_5_code (4 : Nat) (Option.none : Option Jvm.ClassFile.FieldType)) ∈ gt := gt_mem 567 (by decide +kernel) rfl
theorem tw_525 : (Jvm.Cond.methodLink "HeaveSongs$Hands" (41 : Nat) ({ cls := "java/lang/Math", name := "min", desc := "(II)I" } : Jvm.MethodName)) ∈ gt := gt_mem 568 (by decide +kernel) rfl
theorem tw_526 : (Jvm.Cond.methodLink "HeaveSongs" (148 : Nat) ({ cls := "HeaveSongs$Hands", name := "howManyAtStrength", desc := "()I" } : Jvm.MethodName)) ∈ gt := gt_mem 569 (by decide +kernel) rfl
theorem tw_527 : (Jvm.Cond.instanceMethod ({ cls := "HeaveSongs$Hands", name := "howManyAtStrength", desc := "()I" } : Jvm.MethodName)) ∈ gt := gt_mem 570 (by decide +kernel) rfl
theorem tw_528 : (Jvm.Cond.selects "HeaveSongs$Hands" ({ cls := "HeaveSongs$Hands", name := "howManyAtStrength", desc := "()I" } : Jvm.MethodName) ({ cls := "HeaveSongs$Hands", name := "howManyAtStrength", desc := "()I" } : Jvm.MethodName)) ∈ gt := gt_mem 571 (by decide +kernel) rfl
theorem tw_529 : (Jvm.Cond.code ({ cls := "HeaveSongs$Hands", name := "howManyAtStrength", desc := "()I" } : Jvm.MethodName) prog_2_method_6_code (3 : Nat) (Option.some Jvm.ClassFile.FieldType.int)) ∈ gt := gt_mem 572 (by decide +kernel) rfl
theorem tw_530 : (Jvm.Cond.methodLink "HeaveSongsLaw" (61 : Nat) ({ cls := "HeaveSongs", name := "haul", desc := "(IIII)I" } : Jvm.MethodName)) ∈ gt := gt_mem 573 (by decide +kernel) rfl
theorem tw_531 : (Jvm.Cond.instanceMethod ({ cls := "HeaveSongs", name := "haul", desc := "(IIII)I" } : Jvm.MethodName)) ∈ gt := gt_mem 574 (by decide +kernel) rfl
theorem tw_532 : (Jvm.Cond.selects "HeaveSongs" ({ cls := "HeaveSongs", name := "haul", desc := "(IIII)I" } : Jvm.MethodName) ({ cls := "HeaveSongs", name := "haul", desc := "(IIII)I" } : Jvm.MethodName)) ∈ gt := gt_mem 575 (by decide +kernel) rfl
theorem tw_533 : (Jvm.Cond.code ({ cls := "HeaveSongs", name := "haul", desc := "(IIII)I" } : Jvm.MethodName) prog_1_method_13_code (7 : Nat) (Option.some Jvm.ClassFile.FieldType.int)) ∈ gt := gt_mem 576 (by decide +kernel) rfl
theorem tw_534 : (Jvm.Cond.methodLink "HeaveSongs" (151 : Nat) ({ cls := "HeaveSongs", name := "isTask", desc := "(III)Z" } : Jvm.MethodName)) ∈ gt := gt_mem 577 (by decide +kernel) rfl
theorem tw_535 : (Jvm.Cond.static ({ cls := "HeaveSongs", name := "isTask", desc := "(III)Z" } : Jvm.MethodName)) ∈ gt := gt_mem 578 (by decide +kernel) rfl
theorem tw_536 : (Jvm.Cond.code ({ cls := "HeaveSongs", name := "isTask", desc := "(III)Z" } : Jvm.MethodName) prog_1_method_39_code (3 : Nat) (Option.some Jvm.ClassFile.FieldType.boolean)) ∈ gt := gt_mem 579 (by decide +kernel) rfl
theorem tw_537 : (Jvm.Cond.methodLink "HeaveSongs" (250 : Nat) ({ cls := "HeaveSongs", name := "isWeight", desc := "(II)Z" } : Jvm.MethodName)) ∈ gt := gt_mem 580 (by decide +kernel) rfl
theorem tw_538 : (Jvm.Cond.static ({ cls := "HeaveSongs", name := "isWeight", desc := "(II)Z" } : Jvm.MethodName)) ∈ gt := gt_mem 581 (by decide +kernel) rfl
theorem tw_539 : (Jvm.Cond.code ({ cls := "HeaveSongs", name := "isWeight", desc := "(II)Z" } : Jvm.MethodName) prog_1_method_38_code (2 : Nat) (Option.some Jvm.ClassFile.FieldType.boolean)) ∈ gt := gt_mem 582 (by decide +kernel) rfl
theorem tw_540 : (Jvm.Cond.methodLink "HeaveSongs" (154 : Nat) ({ cls := "HeaveSongs$Haul", name := "beginAsTold", desc := "(LHeaveSongs$Hands;)V" } : Jvm.MethodName)) ∈ gt := gt_mem 583 (by decide +kernel) rfl
theorem tw_541 : (Jvm.Cond.instanceMethod ({ cls := "HeaveSongs$Haul", name := "beginAsTold", desc := "(LHeaveSongs$Hands;)V" } : Jvm.MethodName)) ∈ gt := gt_mem 584 (by decide +kernel) rfl
theorem tw_542 : (Jvm.Cond.selects "HeaveSongs$Haul" ({ cls := "HeaveSongs$Haul", name := "beginAsTold", desc := "(LHeaveSongs$Hands;)V" } : Jvm.MethodName) ({ cls := "HeaveSongs$Haul", name := "beginAsTold", desc := "(LHeaveSongs$Hands;)V" } : Jvm.MethodName)) ∈ gt := gt_mem 585 (by decide +kernel) rfl
theorem tw_543 : (Jvm.Cond.code ({ cls := "HeaveSongs$Haul", name := "beginAsTold", desc := "(LHeaveSongs$Hands;)V" } : Jvm.MethodName) prog_3_method_2_code (2 : Nat) (Option.none : Option Jvm.ClassFile.FieldType)) ∈ gt := gt_mem 586 (by decide +kernel) rfl
theorem tw_545 : (Jvm.Cond.classLink "HeaveSongs" (158 : Nat) "HeaveSongs$Task") ∈ gt := gt_mem 588 (by decide +kernel) rfl
theorem tw_546 : (Jvm.Cond.instantiable "HeaveSongs$Task" (3 : Nat)) ∈ gt := gt_mem 589 (by decide +kernel) rfl
theorem tw_547 : (Jvm.Cond.methodLink "HeaveSongs" (160 : Nat) ({ cls := "HeaveSongs$Task", name := "<init>", desc := "(III)V" } : Jvm.MethodName)) ∈ gt := gt_mem 590 (by decide +kernel) rfl
theorem tw_548 : (Jvm.Cond.instanceMethod ({ cls := "HeaveSongs$Task", name := "<init>", desc := "(III)V" } : Jvm.MethodName)) ∈ gt := gt_mem 591 (by decide +kernel) rfl
theorem tw_549 : (Jvm.Cond.code ({ cls := "HeaveSongs$Task", name := "<init>", desc := "(III)V" } : Jvm.MethodName) prog_10_method_1_code (4 : Nat) (Option.none : Option Jvm.ClassFile.FieldType)) ∈ gt := gt_mem 592 (by decide +kernel) rfl
theorem tw_550 : (Jvm.Cond.methodLink "HeaveSongs$Task" (1 : Nat) ({ cls := "java/lang/Object", name := "<init>", desc := "()V" } : Jvm.MethodName)) ∈ gt := gt_mem 593 (by decide +kernel) rfl
theorem tw_551 : (Jvm.Cond.fieldLink "HeaveSongs$Task" (7 : Nat) "HeaveSongs$Task" "goal" "I") ∈ gt := gt_mem 594 (by decide +kernel) rfl
theorem tw_552 : (Jvm.Cond.fieldLink "HeaveSongs$Haul" (81 : Nat) "HeaveSongs$Task" "goal" "I") ∈ gt := gt_mem 595 (by decide +kernel) rfl
theorem tw_553 : (Jvm.Cond.fieldLink "HeaveSongs$Task" (13 : Nat) "HeaveSongs$Task" "load" "I") ∈ gt := gt_mem 596 (by decide +kernel) rfl
theorem tw_554 : (Jvm.Cond.fieldLink "HeaveSongs$Task" (16 : Nat) "HeaveSongs$Task" "slip" "I") ∈ gt := gt_mem 597 (by decide +kernel) rfl
theorem tw_562 : (Jvm.Cond.methodLink "HeaveSongs" (163 : Nat) ({ cls := "HeaveSongs$Haul", name := "go", desc := "(LHeaveSongs$Hands;LHeaveSongs$Song;LHeaveSongs$Task;I)Z" } : Jvm.MethodName)) ∈ gt := gt_mem 605 (by decide +kernel) rfl
theorem tw_563 : (Jvm.Cond.instanceMethod ({ cls := "HeaveSongs$Haul", name := "go", desc := "(LHeaveSongs$Hands;LHeaveSongs$Song;LHeaveSongs$Task;I)Z" } : Jvm.MethodName)) ∈ gt := gt_mem 606 (by decide +kernel) rfl
theorem tw_564 : (Jvm.Cond.selects "HeaveSongs$Haul" ({ cls := "HeaveSongs$Haul", name := "go", desc := "(LHeaveSongs$Hands;LHeaveSongs$Song;LHeaveSongs$Task;I)Z" } : Jvm.MethodName) ({ cls := "HeaveSongs$Haul", name := "go", desc := "(LHeaveSongs$Hands;LHeaveSongs$Song;LHeaveSongs$Task;I)Z" } : Jvm.MethodName)) ∈ gt := gt_mem 607 (by decide +kernel) rfl
theorem tw_565 : (Jvm.Cond.code ({ cls := "HeaveSongs$Haul", name := "go", desc := "(LHeaveSongs$Hands;LHeaveSongs$Song;LHeaveSongs$Task;I)Z" } : Jvm.MethodName) prog_3_method_4_code (8 : Nat) (Option.some Jvm.ClassFile.FieldType.boolean)) ∈ gt := gt_mem 608 (by decide +kernel) rfl
theorem tw_566 : (Jvm.Cond.methodLink "HeaveSongs$Haul" (53 : Nat) ({ cls := "HeaveSongs$Haul", name := "gatherByLate", desc := "(I)V" } : Jvm.MethodName)) ∈ gt := gt_mem 609 (by decide +kernel) rfl
theorem tw_568 : (Jvm.Cond.instanceMethod ({ cls := "HeaveSongs$Haul", name := "gatherByLate", desc := "(I)V" } : Jvm.MethodName)) ∈ gt := gt_mem 611 (by decide +kernel) rfl
theorem tw_569 : (Jvm.Cond.code ({ cls := "HeaveSongs$Haul", name := "gatherByLate", desc := "(I)V" } : Jvm.MethodName) prog_3_method_5_code (3 : Nat) (Option.none : Option Jvm.ClassFile.FieldType)) ∈ gt := gt_mem 612 (by decide +kernel) rfl
theorem tw_571 : (Jvm.Cond.static ({ cls := "HeaveSongs", name := "isIn", desc := "(II)Z" } : Jvm.MethodName)) ∈ gt := gt_mem 614 (by decide +kernel) rfl
theorem tw_572 : (Jvm.Cond.code ({ cls := "HeaveSongs", name := "isIn", desc := "(II)Z" } : Jvm.MethodName) prog_1_method_37_code (2 : Nat) (Option.some Jvm.ClassFile.FieldType.boolean)) ∈ gt := gt_mem 615 (by decide +kernel) rfl
theorem tw_574 : (Jvm.Cond.methodLink "HeaveSongs$Haul" (57 : Nat) ({ cls := "HeaveSongs$Haul", name := "pullersAt", desc := "(LHeaveSongs$Song;I)I" } : Jvm.MethodName)) ∈ gt := gt_mem 617 (by decide +kernel) rfl
theorem tw_576 : (Jvm.Cond.instanceMethod ({ cls := "HeaveSongs$Haul", name := "pullersAt", desc := "(LHeaveSongs$Song;I)I" } : Jvm.MethodName)) ∈ gt := gt_mem 619 (by decide +kernel) rfl
theorem tw_577 : (Jvm.Cond.code ({ cls := "HeaveSongs$Haul", name := "pullersAt", desc := "(LHeaveSongs$Song;I)I" } : Jvm.MethodName) prog_3_method_6_code (5 : Nat) (Option.some Jvm.ClassFile.FieldType.int)) ∈ gt := gt_mem 620 (by decide +kernel) rfl
theorem tw_578 : (Jvm.Cond.methodLink "HeaveSongs$Haul" (61 : Nat) ({ cls := "HeaveSongs$Song", name := "sungAt", desc := "(I)I" } : Jvm.MethodName)) ∈ gt := gt_mem 621 (by decide +kernel) rfl
theorem tw_579 : (Jvm.Cond.methodLink "HeaveSongs$Haul" (67 : Nat) ({ cls := "HeaveSongs$Haul", name := "pull", desc := "(LHeaveSongs$Hands;II)I" } : Jvm.MethodName)) ∈ gt := gt_mem 622 (by decide +kernel) rfl
theorem tw_581 : (Jvm.Cond.instanceMethod ({ cls := "HeaveSongs$Haul", name := "pull", desc := "(LHeaveSongs$Hands;II)I" } : Jvm.MethodName)) ∈ gt := gt_mem 624 (by decide +kernel) rfl
theorem tw_582 : (Jvm.Cond.code ({ cls := "HeaveSongs$Haul", name := "pull", desc := "(LHeaveSongs$Hands;II)I" } : Jvm.MethodName) prog_3_method_7_code (7 : Nat) (Option.some Jvm.ClassFile.FieldType.int)) ∈ gt := gt_mem 625 (by decide +kernel) rfl
theorem tw_583 : (Jvm.Cond.methodLink "HeaveSongs$Haul" (95 : Nat) ({ cls := "java/lang/Math", name := "max", desc := "(II)I" } : Jvm.MethodName)) ∈ gt := gt_mem 626 (by decide +kernel) rfl
theorem tw_584 : (Jvm.Cond.methodLink "HeaveSongs$Haul" (100 : Nat) ({ cls := "HeaveSongs$Haul", name := "comesBack", desc := "(LHeaveSongs$Hands;II)I" } : Jvm.MethodName)) ∈ gt := gt_mem 627 (by decide +kernel) rfl
theorem tw_586 : (Jvm.Cond.instanceMethod ({ cls := "HeaveSongs$Haul", name := "comesBack", desc := "(LHeaveSongs$Hands;II)I" } : Jvm.MethodName)) ∈ gt := gt_mem 629 (by decide +kernel) rfl
theorem tw_587 : (Jvm.Cond.code ({ cls := "HeaveSongs$Haul", name := "comesBack", desc := "(LHeaveSongs$Hands;II)I" } : Jvm.MethodName) prog_3_method_8_code (4 : Nat) (Option.some Jvm.ClassFile.FieldType.int)) ∈ gt := gt_mem 630 (by decide +kernel) rfl
theorem tw_588 : (Jvm.Cond.methodLink "HeaveSongs$Haul" (103 : Nat) ({ cls := "java/lang/Math", name := "min", desc := "(II)I" } : Jvm.MethodName)) ∈ gt := gt_mem 631 (by decide +kernel) rfl
theorem tw_589 : (Jvm.Cond.methodLink "HeaveSongs$Haul" (71 : Nat) ({ cls := "HeaveSongs$Task", name := "wonBehind", desc := "(II)I" } : Jvm.MethodName)) ∈ gt := gt_mem 632 (by decide +kernel) rfl
theorem tw_590 : (Jvm.Cond.instanceMethod ({ cls := "HeaveSongs$Task", name := "wonBehind", desc := "(II)I" } : Jvm.MethodName)) ∈ gt := gt_mem 633 (by decide +kernel) rfl
theorem tw_591 : (Jvm.Cond.selects "HeaveSongs$Task" ({ cls := "HeaveSongs$Task", name := "wonBehind", desc := "(II)I" } : Jvm.MethodName) ({ cls := "HeaveSongs$Task", name := "wonBehind", desc := "(II)I" } : Jvm.MethodName)) ∈ gt := gt_mem 634 (by decide +kernel) rfl
theorem tw_592 : (Jvm.Cond.code ({ cls := "HeaveSongs$Task", name := "wonBehind", desc := "(II)I" } : Jvm.MethodName) prog_10_method_2_code (3 : Nat) (Option.some Jvm.ClassFile.FieldType.int)) ∈ gt := gt_mem 635 (by decide +kernel) rfl
theorem tw_593 : (Jvm.Cond.methodLink "HeaveSongs$Task" (19 : Nat) ({ cls := "java/lang/Math", name := "max", desc := "(II)I" } : Jvm.MethodName)) ∈ gt := gt_mem 636 (by decide +kernel) rfl
theorem tw_594 : (Jvm.Cond.methodLink "HeaveSongs$Haul" (77 : Nat) ({ cls := "HeaveSongs$Haul", name := "isBelowFloor", desc := "(I)Z" } : Jvm.MethodName)) ∈ gt := gt_mem 637 (by decide +kernel) rfl
theorem tw_596 : (Jvm.Cond.instanceMethod ({ cls := "HeaveSongs$Haul", name := "isBelowFloor", desc := "(I)Z" } : Jvm.MethodName)) ∈ gt := gt_mem 639 (by decide +kernel) rfl
theorem tw_597 : (Jvm.Cond.code ({ cls := "HeaveSongs$Haul", name := "isBelowFloor", desc := "(I)Z" } : Jvm.MethodName) prog_3_method_9_code (3 : Nat) (Option.some Jvm.ClassFile.FieldType.boolean)) ∈ gt := gt_mem 640 (by decide +kernel) rfl
theorem tw_598 : (Jvm.Cond.methodLink "HeaveSongs" (168 : Nat) ({ cls := "HeaveSongs", name := "copy", desc := "([I[I)V" } : Jvm.MethodName)) ∈ gt := gt_mem 641 (by decide +kernel) rfl
theorem tw_599 : (Jvm.Cond.methodLink "HeaveSongsLaw" (65 : Nat) ({ cls := "HeaveSongs", name := "won", desc := "(I)I" } : Jvm.MethodName)) ∈ gt := gt_mem 642 (by decide +kernel) rfl
theorem tw_600 : (Jvm.Cond.instanceMethod ({ cls := "HeaveSongs", name := "won", desc := "(I)I" } : Jvm.MethodName)) ∈ gt := gt_mem 643 (by decide +kernel) rfl
theorem tw_601 : (Jvm.Cond.selects "HeaveSongs" ({ cls := "HeaveSongs", name := "won", desc := "(I)I" } : Jvm.MethodName) ({ cls := "HeaveSongs", name := "won", desc := "(I)I" } : Jvm.MethodName)) ∈ gt := gt_mem 644 (by decide +kernel) rfl
theorem tw_602 : (Jvm.Cond.code ({ cls := "HeaveSongs", name := "won", desc := "(I)I" } : Jvm.MethodName) prog_1_method_14_code (2 : Nat) (Option.some Jvm.ClassFile.FieldType.int)) ∈ gt := gt_mem 645 (by decide +kernel) rfl
theorem tw_603 : (Jvm.Cond.methodLink "HeaveSongs" (178 : Nat) ({ cls := "HeaveSongs", name := "ofLatest", desc := "([II)I" } : Jvm.MethodName)) ∈ gt := gt_mem 646 (by decide +kernel) rfl
theorem tw_605 : (Jvm.Cond.instanceMethod ({ cls := "HeaveSongs", name := "ofLatest", desc := "([II)I" } : Jvm.MethodName)) ∈ gt := gt_mem 648 (by decide +kernel) rfl
theorem tw_606 : (Jvm.Cond.code ({ cls := "HeaveSongs", name := "ofLatest", desc := "([II)I" } : Jvm.MethodName) prog_1_method_42_code (3 : Nat) (Option.some Jvm.ClassFile.FieldType.int)) ∈ gt := gt_mem 649 (by decide +kernel) rfl
theorem tw_607 : (Jvm.Cond.methodLink "HeaveSongsLaw" (69 : Nat) ({ cls := "HeaveSongs", name := "force", desc := "(I)I" } : Jvm.MethodName)) ∈ gt := gt_mem 650 (by decide +kernel) rfl
theorem tw_608 : (Jvm.Cond.instanceMethod ({ cls := "HeaveSongs", name := "force", desc := "(I)I" } : Jvm.MethodName)) ∈ gt := gt_mem 651 (by decide +kernel) rfl
theorem tw_609 : (Jvm.Cond.selects "HeaveSongs" ({ cls := "HeaveSongs", name := "force", desc := "(I)I" } : Jvm.MethodName) ({ cls := "HeaveSongs", name := "force", desc := "(I)I" } : Jvm.MethodName)) ∈ gt := gt_mem 652 (by decide +kernel) rfl
theorem tw_610 : (Jvm.Cond.code ({ cls := "HeaveSongs", name := "force", desc := "(I)I" } : Jvm.MethodName) prog_1_method_15_code (2 : Nat) (Option.some Jvm.ClassFile.FieldType.int)) ∈ gt := gt_mem 653 (by decide +kernel) rfl
theorem tw_611 : (Jvm.Cond.methodLink "HeaveSongsLaw" (73 : Nat) ({ cls := "HeaveSongs", name := "task", desc := "(III)I" } : Jvm.MethodName)) ∈ gt := gt_mem 654 (by decide +kernel) rfl
theorem tw_612 : (Jvm.Cond.instanceMethod ({ cls := "HeaveSongs", name := "task", desc := "(III)I" } : Jvm.MethodName)) ∈ gt := gt_mem 655 (by decide +kernel) rfl
theorem tw_613 : (Jvm.Cond.selects "HeaveSongs" ({ cls := "HeaveSongs", name := "task", desc := "(III)I" } : Jvm.MethodName) ({ cls := "HeaveSongs", name := "task", desc := "(III)I" } : Jvm.MethodName)) ∈ gt := gt_mem 656 (by decide +kernel) rfl
theorem tw_614 : (Jvm.Cond.code ({ cls := "HeaveSongs", name := "task", desc := "(III)I" } : Jvm.MethodName) prog_1_method_16_code (4 : Nat) (Option.some Jvm.ClassFile.FieldType.int)) ∈ gt := gt_mem 657 (by decide +kernel) rfl
theorem tw_615 : (Jvm.Cond.methodLink "HeaveSongsLaw" (78 : Nat) ({ cls := "HeaveSongs", name := "between", desc := "(I)I" } : Jvm.MethodName)) ∈ gt := gt_mem 658 (by decide +kernel) rfl
theorem tw_616 : (Jvm.Cond.instanceMethod ({ cls := "HeaveSongs", name := "between", desc := "(I)I" } : Jvm.MethodName)) ∈ gt := gt_mem 659 (by decide +kernel) rfl
theorem tw_617 : (Jvm.Cond.selects "HeaveSongs" ({ cls := "HeaveSongs", name := "between", desc := "(I)I" } : Jvm.MethodName) ({ cls := "HeaveSongs", name := "between", desc := "(I)I" } : Jvm.MethodName)) ∈ gt := gt_mem 660 (by decide +kernel) rfl
theorem tw_618 : (Jvm.Cond.code ({ cls := "HeaveSongs", name := "between", desc := "(I)I" } : Jvm.MethodName) prog_1_method_17_code (3 : Nat) (Option.some Jvm.ClassFile.FieldType.int)) ∈ gt := gt_mem 661 (by decide +kernel) rfl
theorem tw_619 : (Jvm.Cond.methodLink "HeaveSongsLaw" (82 : Nat) ({ cls := "HeaveSongs", name := "plan", desc := "()I" } : Jvm.MethodName)) ∈ gt := gt_mem 662 (by decide +kernel) rfl
theorem tw_620 : (Jvm.Cond.instanceMethod ({ cls := "HeaveSongs", name := "plan", desc := "()I" } : Jvm.MethodName)) ∈ gt := gt_mem 663 (by decide +kernel) rfl
theorem tw_621 : (Jvm.Cond.selects "HeaveSongs" ({ cls := "HeaveSongs", name := "plan", desc := "()I" } : Jvm.MethodName) ({ cls := "HeaveSongs", name := "plan", desc := "()I" } : Jvm.MethodName)) ∈ gt := gt_mem 664 (by decide +kernel) rfl
theorem tw_622 : (Jvm.Cond.code ({ cls := "HeaveSongs", name := "plan", desc := "()I" } : Jvm.MethodName) prog_1_method_18_code (1 : Nat) (Option.some Jvm.ClassFile.FieldType.int)) ∈ gt := gt_mem 665 (by decide +kernel) rfl
theorem tw_623 : (Jvm.Cond.methodLink "HeaveSongs" (188 : Nat) ({ cls := "java/util/ArrayList", name := "isEmpty", desc := "()Z" } : Jvm.MethodName)) ∈ gt := gt_mem 666 (by decide +kernel) rfl
theorem tw_624 : (Jvm.Cond.instanceMethod ({ cls := "java/util/ArrayList", name := "isEmpty", desc := "()Z" } : Jvm.MethodName)) ∈ gt := gt_mem 667 (by decide +kernel) rfl
theorem tw_625 : (Jvm.Cond.selects "java/util/ArrayList" ({ cls := "java/util/ArrayList", name := "isEmpty", desc := "()Z" } : Jvm.MethodName) ({ cls := "java/util/ArrayList", name := "isEmpty", desc := "()Z" } : Jvm.MethodName)) ∈ gt := gt_mem 668 (by decide +kernel) rfl
theorem tw_626 : (Jvm.Cond.code ({ cls := "java/util/ArrayList", name := "isEmpty", desc := "()Z" } : Jvm.MethodName) prog_23_method_9_code (1 : Nat) (Option.some Jvm.ClassFile.FieldType.boolean)) ∈ gt := gt_mem 669 (by decide +kernel) rfl
theorem tw_627 : (Jvm.Cond.methodLink "HeaveSongs" (192 : Nat) ({ cls := "HeaveSongs$TaskSearch", name := "findPlan", desc := "(Ljava/util/ArrayList;LHeaveSongs$Hands;Ljava/util/ArrayList;I)V" } : Jvm.MethodName)) ∈ gt := gt_mem 670 (by decide +kernel) rfl
theorem tw_628 : (Jvm.Cond.instanceMethod ({ cls := "HeaveSongs$TaskSearch", name := "findPlan", desc := "(Ljava/util/ArrayList;LHeaveSongs$Hands;Ljava/util/ArrayList;I)V" } : Jvm.MethodName)) ∈ gt := gt_mem 671 (by decide +kernel) rfl
theorem tw_629 : (Jvm.Cond.selects "HeaveSongs$TaskSearch" ({ cls := "HeaveSongs$TaskSearch", name := "findPlan", desc := "(Ljava/util/ArrayList;LHeaveSongs$Hands;Ljava/util/ArrayList;I)V" } : Jvm.MethodName) ({ cls := "HeaveSongs$TaskSearch", name := "findPlan", desc := "(Ljava/util/ArrayList;LHeaveSongs$Hands;Ljava/util/ArrayList;I)V" } : Jvm.MethodName)) ∈ gt := gt_mem 672 (by decide +kernel) rfl
theorem tw_630 : (Jvm.Cond.code ({ cls := "HeaveSongs$TaskSearch", name := "findPlan", desc := "(Ljava/util/ArrayList;LHeaveSongs$Hands;Ljava/util/ArrayList;I)V" } : Jvm.MethodName) prog_11_method_2_code (5 : Nat) (Option.none : Option Jvm.ClassFile.FieldType)) ∈ gt := gt_mem 673 (by decide +kernel) rfl
theorem tw_631 : (Jvm.Cond.methodLink "HeaveSongs$TaskSearch" (42 : Nat) ({ cls := "HeaveSongs$Haul", name := "beginAsTold", desc := "(LHeaveSongs$Hands;)V" } : Jvm.MethodName)) ∈ gt := gt_mem 674 (by decide +kernel) rfl
theorem tw_633 : (Jvm.Cond.methodLink "HeaveSongs$TaskSearch" (55 : Nat) ({ cls := "HeaveSongs$TaskSearch", name := "tryFrom", desc := "(Ljava/util/ArrayList;LHeaveSongs$Hands;Ljava/util/ArrayList;III)V" } : Jvm.MethodName)) ∈ gt := gt_mem 676 (by decide +kernel) rfl
theorem tw_635 : (Jvm.Cond.instanceMethod ({ cls := "HeaveSongs$TaskSearch", name := "tryFrom", desc := "(Ljava/util/ArrayList;LHeaveSongs$Hands;Ljava/util/ArrayList;III)V" } : Jvm.MethodName)) ∈ gt := gt_mem 678 (by decide +kernel) rfl
theorem tw_636 : (Jvm.Cond.code ({ cls := "HeaveSongs$TaskSearch", name := "tryFrom", desc := "(Ljava/util/ArrayList;LHeaveSongs$Hands;Ljava/util/ArrayList;III)V" } : Jvm.MethodName) prog_11_method_3_code (10 : Nat) (Option.none : Option Jvm.ClassFile.FieldType)) ∈ gt := gt_mem 679 (by decide +kernel) rfl
theorem tw_637 : (Jvm.Cond.methodLink "HeaveSongs$TaskSearch" (59 : Nat) ({ cls := "java/util/ArrayList", name := "size", desc := "()I" } : Jvm.MethodName)) ∈ gt := gt_mem 680 (by decide +kernel) rfl
theorem tw_638 : (Jvm.Cond.methodLink "HeaveSongs$TaskSearch" (66 : Nat) ({ cls := "java/util/ArrayList", name := "get", desc := "(I)Ljava/lang/Object;" } : Jvm.MethodName)) ∈ gt := gt_mem 681 (by decide +kernel) rfl
theorem tw_639 : (Jvm.Cond.classLink "HeaveSongs$TaskSearch" (70 : Nat) "HeaveSongs$Song") ∈ gt := gt_mem 682 (by decide +kernel) rfl
theorem tw_640 : (Jvm.Cond.classLink "HeaveSongs$TaskSearch" (72 : Nat) "HeaveSongs$Task") ∈ gt := gt_mem 683 (by decide +kernel) rfl
theorem tw_641 : (Jvm.Cond.methodLink "HeaveSongs$TaskSearch" (74 : Nat) ({ cls := "HeaveSongs$Haul", name := "go", desc := "(LHeaveSongs$Hands;LHeaveSongs$Song;LHeaveSongs$Task;I)Z" } : Jvm.MethodName)) ∈ gt := gt_mem 684 (by decide +kernel) rfl
theorem tw_642 : (Jvm.Cond.methodLink "HeaveSongs$TaskSearch" (81 : Nat) ({ cls := "HeaveSongs$Hands", name := "restFor", desc := "(I[I)V" } : Jvm.MethodName)) ∈ gt := gt_mem 685 (by decide +kernel) rfl
theorem tw_643 : (Jvm.Cond.constant "HeaveSongs" (199 : Nat) (1000000000 : Int32)) ∈ gt := gt_mem 686 (by decide +kernel) rfl
theorem tw_644 : (Jvm.Cond.methodLink "HeaveSongsLaw" (86 : Nat) ({ cls := "HeaveSongs", name := "planAt", desc := "(I)I" } : Jvm.MethodName)) ∈ gt := gt_mem 687 (by decide +kernel) rfl
theorem tw_645 : (Jvm.Cond.instanceMethod ({ cls := "HeaveSongs", name := "planAt", desc := "(I)I" } : Jvm.MethodName)) ∈ gt := gt_mem 688 (by decide +kernel) rfl
theorem tw_646 : (Jvm.Cond.selects "HeaveSongs" ({ cls := "HeaveSongs", name := "planAt", desc := "(I)I" } : Jvm.MethodName) ({ cls := "HeaveSongs", name := "planAt", desc := "(I)I" } : Jvm.MethodName)) ∈ gt := gt_mem 689 (by decide +kernel) rfl
theorem tw_647 : (Jvm.Cond.code ({ cls := "HeaveSongs", name := "planAt", desc := "(I)I" } : Jvm.MethodName) prog_1_method_19_code (2 : Nat) (Option.some Jvm.ClassFile.FieldType.int)) ∈ gt := gt_mem 690 (by decide +kernel) rfl
theorem tw_648 : (Jvm.Cond.methodLink "HeaveSongsLaw" (90 : Nat) ({ cls := "HeaveSongs", name := "best", desc := "(IIII)I" } : Jvm.MethodName)) ∈ gt := gt_mem 691 (by decide +kernel) rfl
theorem tw_649 : (Jvm.Cond.instanceMethod ({ cls := "HeaveSongs", name := "best", desc := "(IIII)I" } : Jvm.MethodName)) ∈ gt := gt_mem 692 (by decide +kernel) rfl
theorem tw_650 : (Jvm.Cond.selects "HeaveSongs" ({ cls := "HeaveSongs", name := "best", desc := "(IIII)I" } : Jvm.MethodName) ({ cls := "HeaveSongs", name := "best", desc := "(IIII)I" } : Jvm.MethodName)) ∈ gt := gt_mem 693 (by decide +kernel) rfl
theorem tw_651 : (Jvm.Cond.code ({ cls := "HeaveSongs", name := "best", desc := "(IIII)I" } : Jvm.MethodName) prog_1_method_20_code (6 : Nat) (Option.some Jvm.ClassFile.FieldType.int)) ∈ gt := gt_mem 694 (by decide +kernel) rfl
theorem tw_652 : (Jvm.Cond.methodLink "HeaveSongs" (207 : Nat) ({ cls := "HeaveSongs$TaskSearch", name := "findCrew", desc := "(LHeaveSongs$Hands;LHeaveSongs$Song;LHeaveSongs$Task;I)V" } : Jvm.MethodName)) ∈ gt := gt_mem 695 (by decide +kernel) rfl
theorem tw_653 : (Jvm.Cond.instanceMethod ({ cls := "HeaveSongs$TaskSearch", name := "findCrew", desc := "(LHeaveSongs$Hands;LHeaveSongs$Song;LHeaveSongs$Task;I)V" } : Jvm.MethodName)) ∈ gt := gt_mem 696 (by decide +kernel) rfl
theorem tw_654 : (Jvm.Cond.selects "HeaveSongs$TaskSearch" ({ cls := "HeaveSongs$TaskSearch", name := "findCrew", desc := "(LHeaveSongs$Hands;LHeaveSongs$Song;LHeaveSongs$Task;I)V" } : Jvm.MethodName) ({ cls := "HeaveSongs$TaskSearch", name := "findCrew", desc := "(LHeaveSongs$Hands;LHeaveSongs$Song;LHeaveSongs$Task;I)V" } : Jvm.MethodName)) ∈ gt := gt_mem 697 (by decide +kernel) rfl
theorem tw_655 : (Jvm.Cond.code ({ cls := "HeaveSongs$TaskSearch", name := "findCrew", desc := "(LHeaveSongs$Hands;LHeaveSongs$Song;LHeaveSongs$Task;I)V" } : Jvm.MethodName) prog_11_method_4_code (6 : Nat) (Option.none : Option Jvm.ClassFile.FieldType)) ∈ gt := gt_mem 698 (by decide +kernel) rfl
theorem tw_656 : (Jvm.Cond.methodLink "HeaveSongs$TaskSearch" (85 : Nat) ({ cls := "HeaveSongs$Hands", name := "allSet", desc := "()I" } : Jvm.MethodName)) ∈ gt := gt_mem 699 (by decide +kernel) rfl
theorem tw_657 : (Jvm.Cond.methodLink "HeaveSongs$TaskSearch" (88 : Nat) ({ cls := "java/lang/Integer", name := "bitCount", desc := "(I)I" } : Jvm.MethodName)) ∈ gt := gt_mem 700 (by decide +kernel) rfl
theorem tw_658 : (Jvm.Cond.static ({ cls := "java/lang/Integer", name := "bitCount", desc := "(I)I" } : Jvm.MethodName)) ∈ gt := gt_mem 701 (by decide +kernel) rfl
theorem tw_659 : (Jvm.Cond.code ({ cls := "java/lang/Integer", name := "bitCount", desc := "(I)I" } : Jvm.MethodName) prog_17_method_49_code (1 : Nat) (Option.some Jvm.ClassFile.FieldType.int)) ∈ gt := gt_mem 702 (by decide +kernel) rfl
theorem tw_660 : (Jvm.Cond.constant "java/lang/Integer" (265 : Nat) (1431655765 : Int32)) ∈ gt := gt_mem 703 (by decide +kernel) rfl
theorem tw_661 : (Jvm.Cond.constant "java/lang/Integer" (266 : Nat) (858993459 : Int32)) ∈ gt := gt_mem 704 (by decide +kernel) rfl
theorem tw_662 : (Jvm.Cond.constant "java/lang/Integer" (267 : Nat) (252645135 : Int32)) ∈ gt := gt_mem 705 (by decide +kernel) rfl
theorem tw_663 : (Jvm.Cond.methodLink "HeaveSongs$TaskSearch" (94 : Nat) ({ cls := "HeaveSongs$TaskSearch", name := "tryCrew", desc := "(LHeaveSongs$Hands;LHeaveSongs$Song;LHeaveSongs$Task;I)V" } : Jvm.MethodName)) ∈ gt := gt_mem 706 (by decide +kernel) rfl
theorem tw_665 : (Jvm.Cond.instanceMethod ({ cls := "HeaveSongs$TaskSearch", name := "tryCrew", desc := "(LHeaveSongs$Hands;LHeaveSongs$Song;LHeaveSongs$Task;I)V" } : Jvm.MethodName)) ∈ gt := gt_mem 708 (by decide +kernel) rfl
theorem tw_666 : (Jvm.Cond.code ({ cls := "HeaveSongs$TaskSearch", name := "tryCrew", desc := "(LHeaveSongs$Hands;LHeaveSongs$Song;LHeaveSongs$Task;I)V" } : Jvm.MethodName) prog_11_method_5_code (6 : Nat) (Option.none : Option Jvm.ClassFile.FieldType)) ∈ gt := gt_mem 709 (by decide +kernel) rfl
theorem tw_667 : (Jvm.Cond.methodLink "HeaveSongs$TaskSearch" (103 : Nat) ({ cls := "HeaveSongs$Haul", name := "leastNow", desc := "(I)I" } : Jvm.MethodName)) ∈ gt := gt_mem 710 (by decide +kernel) rfl
theorem tw_668 : (Jvm.Cond.instanceMethod ({ cls := "HeaveSongs$Haul", name := "leastNow", desc := "(I)I" } : Jvm.MethodName)) ∈ gt := gt_mem 711 (by decide +kernel) rfl
theorem tw_669 : (Jvm.Cond.selects "HeaveSongs$Haul" ({ cls := "HeaveSongs$Haul", name := "leastNow", desc := "(I)I" } : Jvm.MethodName) ({ cls := "HeaveSongs$Haul", name := "leastNow", desc := "(I)I" } : Jvm.MethodName)) ∈ gt := gt_mem 712 (by decide +kernel) rfl
theorem tw_670 : (Jvm.Cond.code ({ cls := "HeaveSongs$Haul", name := "leastNow", desc := "(I)I" } : Jvm.MethodName) prog_3_method_10_code (4 : Nat) (Option.some Jvm.ClassFile.FieldType.int)) ∈ gt := gt_mem 713 (by decide +kernel) rfl
theorem tw_671 : (Jvm.Cond.methodLink "HeaveSongsLaw" (94 : Nat) ({ cls := "HeaveSongs", name := "word", desc := "(II)I" } : Jvm.MethodName)) ∈ gt := gt_mem 714 (by decide +kernel) rfl
theorem tw_672 : (Jvm.Cond.instanceMethod ({ cls := "HeaveSongs", name := "word", desc := "(II)I" } : Jvm.MethodName)) ∈ gt := gt_mem 715 (by decide +kernel) rfl
theorem tw_673 : (Jvm.Cond.selects "HeaveSongs" ({ cls := "HeaveSongs", name := "word", desc := "(II)I" } : Jvm.MethodName) ({ cls := "HeaveSongs", name := "word", desc := "(II)I" } : Jvm.MethodName)) ∈ gt := gt_mem 716 (by decide +kernel) rfl
theorem tw_674 : (Jvm.Cond.code ({ cls := "HeaveSongs", name := "word", desc := "(II)I" } : Jvm.MethodName) prog_1_method_21_code (3 : Nat) (Option.some Jvm.ClassFile.FieldType.int)) ∈ gt := gt_mem 717 (by decide +kernel) rfl
theorem tw_675 : (Jvm.Cond.classLink "HeaveSongs" (220 : Nat) "HeaveSongs$Word") ∈ gt := gt_mem 718 (by decide +kernel) rfl
theorem tw_676 : (Jvm.Cond.instantiable "HeaveSongs$Word" (2 : Nat)) ∈ gt := gt_mem 719 (by decide +kernel) rfl
theorem tw_677 : (Jvm.Cond.methodLink "HeaveSongs" (222 : Nat) ({ cls := "HeaveSongs$Word", name := "<init>", desc := "(II)V" } : Jvm.MethodName)) ∈ gt := gt_mem 720 (by decide +kernel) rfl
theorem tw_678 : (Jvm.Cond.instanceMethod ({ cls := "HeaveSongs$Word", name := "<init>", desc := "(II)V" } : Jvm.MethodName)) ∈ gt := gt_mem 721 (by decide +kernel) rfl
theorem tw_679 : (Jvm.Cond.code ({ cls := "HeaveSongs$Word", name := "<init>", desc := "(II)V" } : Jvm.MethodName) prog_12_method_1_code (3 : Nat) (Option.none : Option Jvm.ClassFile.FieldType)) ∈ gt := gt_mem 722 (by decide +kernel) rfl
theorem tw_680 : (Jvm.Cond.methodLink "HeaveSongs$Word" (3 : Nat) ({ cls := "java/lang/Object", name := "<init>", desc := "()V" } : Jvm.MethodName)) ∈ gt := gt_mem 723 (by decide +kernel) rfl
theorem tw_681 : (Jvm.Cond.fieldLink "HeaveSongs$Word" (9 : Nat) "HeaveSongs$Word" "sounds" "I") ∈ gt := gt_mem 724 (by decide +kernel) rfl
theorem tw_682 : (Jvm.Cond.fieldLink "HeaveSongs$LineMaker" (56 : Nat) "HeaveSongs$Word" "sounds" "I") ∈ gt := gt_mem 725 (by decide +kernel) rfl
theorem tw_683 : (Jvm.Cond.fieldLink "HeaveSongs$Word" (15 : Nat) "HeaveSongs$Word" "bits" "I") ∈ gt := gt_mem 726 (by decide +kernel) rfl
theorem tw_689 : (Jvm.Cond.methodLink "HeaveSongsLaw" (98 : Nat) ({ cls := "HeaveSongs", name := "lines", desc := "(I)J" } : Jvm.MethodName)) ∈ gt := gt_mem 732 (by decide +kernel) rfl
theorem tw_690 : (Jvm.Cond.instanceMethod ({ cls := "HeaveSongs", name := "lines", desc := "(I)J" } : Jvm.MethodName)) ∈ gt := gt_mem 733 (by decide +kernel) rfl
theorem tw_691 : (Jvm.Cond.selects "HeaveSongs" ({ cls := "HeaveSongs", name := "lines", desc := "(I)J" } : Jvm.MethodName) ({ cls := "HeaveSongs", name := "lines", desc := "(I)J" } : Jvm.MethodName)) ∈ gt := gt_mem 734 (by decide +kernel) rfl
theorem tw_692 : (Jvm.Cond.code ({ cls := "HeaveSongs", name := "lines", desc := "(I)J" } : Jvm.MethodName) prog_1_method_22_code (3 : Nat) (Option.some Jvm.ClassFile.FieldType.long)) ∈ gt := gt_mem 735 (by decide +kernel) rfl
theorem tw_693 : (Jvm.Cond.constantLong "HeaveSongs" (225 : Nat) (-2 : Int64)) ∈ gt := gt_mem 736 (by decide +kernel) rfl
theorem tw_694 : (Jvm.Cond.methodLink "HeaveSongs" (227 : Nat) ({ cls := "HeaveSongs$LineMaker", name := "howMany", desc := "(LHeaveSongs$Row;Ljava/util/ArrayList;)J" } : Jvm.MethodName)) ∈ gt := gt_mem 737 (by decide +kernel) rfl
theorem tw_695 : (Jvm.Cond.instanceMethod ({ cls := "HeaveSongs$LineMaker", name := "howMany", desc := "(LHeaveSongs$Row;Ljava/util/ArrayList;)J" } : Jvm.MethodName)) ∈ gt := gt_mem 738 (by decide +kernel) rfl
theorem tw_696 : (Jvm.Cond.selects "HeaveSongs$LineMaker" ({ cls := "HeaveSongs$LineMaker", name := "howMany", desc := "(LHeaveSongs$Row;Ljava/util/ArrayList;)J" } : Jvm.MethodName) ({ cls := "HeaveSongs$LineMaker", name := "howMany", desc := "(LHeaveSongs$Row;Ljava/util/ArrayList;)J" } : Jvm.MethodName)) ∈ gt := gt_mem 739 (by decide +kernel) rfl
theorem tw_697 : (Jvm.Cond.code ({ cls := "HeaveSongs$LineMaker", name := "howMany", desc := "(LHeaveSongs$Row;Ljava/util/ArrayList;)J" } : Jvm.MethodName) prog_6_method_2_code (4 : Nat) (Option.some Jvm.ClassFile.FieldType.long)) ∈ gt := gt_mem 740 (by decide +kernel) rfl
theorem tw_699 : (Jvm.Cond.static ({ cls := "HeaveSongs", name := "isSilent", desc := "(I)Z" } : Jvm.MethodName)) ∈ gt := gt_mem 742 (by decide +kernel) rfl
theorem tw_700 : (Jvm.Cond.code ({ cls := "HeaveSongs", name := "isSilent", desc := "(I)Z" } : Jvm.MethodName) prog_1_method_36_code (1 : Nat) (Option.some Jvm.ClassFile.FieldType.boolean)) ∈ gt := gt_mem 743 (by decide +kernel) rfl
theorem tw_701 : (Jvm.Cond.methodLink "HeaveSongs$LineMaker" (35 : Nat) ({ cls := "HeaveSongs$LineMaker", name := "countWays", desc := "(LHeaveSongs$Row;Ljava/util/ArrayList;I)J" } : Jvm.MethodName)) ∈ gt := gt_mem 744 (by decide +kernel) rfl
theorem tw_703 : (Jvm.Cond.instanceMethod ({ cls := "HeaveSongs$LineMaker", name := "countWays", desc := "(LHeaveSongs$Row;Ljava/util/ArrayList;I)J" } : Jvm.MethodName)) ∈ gt := gt_mem 746 (by decide +kernel) rfl
theorem tw_704 : (Jvm.Cond.code ({ cls := "HeaveSongs$LineMaker", name := "countWays", desc := "(LHeaveSongs$Row;Ljava/util/ArrayList;I)J" } : Jvm.MethodName) prog_6_method_3_code (8 : Nat) (Option.some Jvm.ClassFile.FieldType.long)) ∈ gt := gt_mem 747 (by decide +kernel) rfl
theorem tw_705 : (Jvm.Cond.methodLink "HeaveSongs$LineMaker" (39 : Nat) ({ cls := "java/util/ArrayList", name := "size", desc := "()I" } : Jvm.MethodName)) ∈ gt := gt_mem 748 (by decide +kernel) rfl
theorem tw_706 : (Jvm.Cond.methodLink "HeaveSongs$LineMaker" (44 : Nat) ({ cls := "java/util/ArrayList", name := "get", desc := "(I)Ljava/lang/Object;" } : Jvm.MethodName)) ∈ gt := gt_mem 749 (by decide +kernel) rfl
theorem tw_707 : (Jvm.Cond.classLink "HeaveSongs$LineMaker" (48 : Nat) "HeaveSongs$Word") ∈ gt := gt_mem 750 (by decide +kernel) rfl
theorem tw_708 : (Jvm.Cond.methodLink "HeaveSongs$LineMaker" (50 : Nat) ({ cls := "HeaveSongs$Word", name := "wrongIfSungFrom", desc := "(LHeaveSongs$Row;I)I" } : Jvm.MethodName)) ∈ gt := gt_mem 751 (by decide +kernel) rfl
theorem tw_709 : (Jvm.Cond.instanceMethod ({ cls := "HeaveSongs$Word", name := "wrongIfSungFrom", desc := "(LHeaveSongs$Row;I)I" } : Jvm.MethodName)) ∈ gt := gt_mem 752 (by decide +kernel) rfl
theorem tw_710 : (Jvm.Cond.selects "HeaveSongs$Word" ({ cls := "HeaveSongs$Word", name := "wrongIfSungFrom", desc := "(LHeaveSongs$Row;I)I" } : Jvm.MethodName) ({ cls := "HeaveSongs$Word", name := "wrongIfSungFrom", desc := "(LHeaveSongs$Row;I)I" } : Jvm.MethodName)) ∈ gt := gt_mem 753 (by decide +kernel) rfl
theorem tw_711 : (Jvm.Cond.code ({ cls := "HeaveSongs$Word", name := "wrongIfSungFrom", desc := "(LHeaveSongs$Row;I)I" } : Jvm.MethodName) prog_12_method_3_code (6 : Nat) (Option.some Jvm.ClassFile.FieldType.int)) ∈ gt := gt_mem 754 (by decide +kernel) rfl
theorem tw_713 : (Jvm.Cond.methodLink "HeaveSongs$Word" (31 : Nat) ({ cls := "HeaveSongs$Word", name := "isStrong", desc := "(I)Z" } : Jvm.MethodName)) ∈ gt := gt_mem 756 (by decide +kernel) rfl
theorem tw_714 : (Jvm.Cond.instanceMethod ({ cls := "HeaveSongs$Word", name := "isStrong", desc := "(I)Z" } : Jvm.MethodName)) ∈ gt := gt_mem 757 (by decide +kernel) rfl
theorem tw_715 : (Jvm.Cond.selects "HeaveSongs$Word" ({ cls := "HeaveSongs$Word", name := "isStrong", desc := "(I)Z" } : Jvm.MethodName) ({ cls := "HeaveSongs$Word", name := "isStrong", desc := "(I)Z" } : Jvm.MethodName)) ∈ gt := gt_mem 758 (by decide +kernel) rfl
theorem tw_716 : (Jvm.Cond.code ({ cls := "HeaveSongs$Word", name := "isStrong", desc := "(I)Z" } : Jvm.MethodName) prog_12_method_2_code (2 : Nat) (Option.some Jvm.ClassFile.FieldType.boolean)) ∈ gt := gt_mem 759 (by decide +kernel) rfl
theorem tw_717 : (Jvm.Cond.constantLong "HeaveSongs$LineMaker" (54 : Nat) (1000000000000000 : Int64)) ∈ gt := gt_mem 760 (by decide +kernel) rfl
theorem tw_718 : (Jvm.Cond.methodLink "HeaveSongs$LineMaker" (59 : Nat) ({ cls := "java/lang/Math", name := "min", desc := "(JJ)J" } : Jvm.MethodName)) ∈ gt := gt_mem 761 (by decide +kernel) rfl
theorem tw_719 : (Jvm.Cond.static ({ cls := "java/lang/Math", name := "min", desc := "(JJ)J" } : Jvm.MethodName)) ∈ gt := gt_mem 762 (by decide +kernel) rfl
theorem tw_720 : (Jvm.Cond.code ({ cls := "java/lang/Math", name := "min", desc := "(JJ)J" } : Jvm.MethodName) prog_19_method_70_code (4 : Nat) (Option.some Jvm.ClassFile.FieldType.long)) ∈ gt := gt_mem 763 (by decide +kernel) rfl
theorem tw_721 : (Jvm.Cond.methodLink "HeaveSongsLaw" (105 : Nat) ({ cls := "HeaveSongs", name := "lineAt", desc := "(IJI)I" } : Jvm.MethodName)) ∈ gt := gt_mem 764 (by decide +kernel) rfl
theorem tw_722 : (Jvm.Cond.instanceMethod ({ cls := "HeaveSongs", name := "lineAt", desc := "(IJI)I" } : Jvm.MethodName)) ∈ gt := gt_mem 765 (by decide +kernel) rfl
theorem tw_723 : (Jvm.Cond.selects "HeaveSongs" ({ cls := "HeaveSongs", name := "lineAt", desc := "(IJI)I" } : Jvm.MethodName) ({ cls := "HeaveSongs", name := "lineAt", desc := "(IJI)I" } : Jvm.MethodName)) ∈ gt := gt_mem 766 (by decide +kernel) rfl
theorem tw_724 : (Jvm.Cond.code ({ cls := "HeaveSongs", name := "lineAt", desc := "(IJI)I" } : Jvm.MethodName) prog_1_method_23_code (6 : Nat) (Option.some Jvm.ClassFile.FieldType.int)) ∈ gt := gt_mem 767 (by decide +kernel) rfl
theorem tw_725 : (Jvm.Cond.methodLink "HeaveSongs" (231 : Nat) ({ cls := "HeaveSongs$LineMaker", name := "makeLine", desc := "(LHeaveSongs$Row;Ljava/util/ArrayList;J)V" } : Jvm.MethodName)) ∈ gt := gt_mem 768 (by decide +kernel) rfl
theorem tw_726 : (Jvm.Cond.instanceMethod ({ cls := "HeaveSongs$LineMaker", name := "makeLine", desc := "(LHeaveSongs$Row;Ljava/util/ArrayList;J)V" } : Jvm.MethodName)) ∈ gt := gt_mem 769 (by decide +kernel) rfl
theorem tw_727 : (Jvm.Cond.selects "HeaveSongs$LineMaker" ({ cls := "HeaveSongs$LineMaker", name := "makeLine", desc := "(LHeaveSongs$Row;Ljava/util/ArrayList;J)V" } : Jvm.MethodName) ({ cls := "HeaveSongs$LineMaker", name := "makeLine", desc := "(LHeaveSongs$Row;Ljava/util/ArrayList;J)V" } : Jvm.MethodName)) ∈ gt := gt_mem 770 (by decide +kernel) rfl
theorem tw_728 : (Jvm.Cond.code ({ cls := "HeaveSongs$LineMaker", name := "makeLine", desc := "(LHeaveSongs$Row;Ljava/util/ArrayList;J)V" } : Jvm.MethodName) prog_6_method_7_code (5 : Nat) (Option.none : Option Jvm.ClassFile.FieldType)) ∈ gt := gt_mem 771 (by decide +kernel) rfl
theorem tw_729 : (Jvm.Cond.methodLink "HeaveSongs$LineMaker" (74 : Nat) ({ cls := "HeaveSongs$LineMaker", name := "howMany", desc := "(LHeaveSongs$Row;Ljava/util/ArrayList;)J" } : Jvm.MethodName)) ∈ gt := gt_mem 772 (by decide +kernel) rfl
theorem tw_730 : (Jvm.Cond.methodLink "HeaveSongs$LineMaker" (82 : Nat) ({ cls := "HeaveSongs$LineMaker", name := "lay", desc := "(LHeaveSongs$Row;Ljava/util/ArrayList;Z)V" } : Jvm.MethodName)) ∈ gt := gt_mem 773 (by decide +kernel) rfl
theorem tw_732 : (Jvm.Cond.instanceMethod ({ cls := "HeaveSongs$LineMaker", name := "lay", desc := "(LHeaveSongs$Row;Ljava/util/ArrayList;Z)V" } : Jvm.MethodName)) ∈ gt := gt_mem 775 (by decide +kernel) rfl
theorem tw_733 : (Jvm.Cond.code ({ cls := "HeaveSongs$LineMaker", name := "lay", desc := "(LHeaveSongs$Row;Ljava/util/ArrayList;Z)V" } : Jvm.MethodName) prog_6_method_9_code (7 : Nat) (Option.none : Option Jvm.ClassFile.FieldType)) ∈ gt := gt_mem 776 (by decide +kernel) rfl
theorem tw_734 : (Jvm.Cond.methodLink "HeaveSongs$LineMaker" (90 : Nat) ({ cls := "HeaveSongs$LineMaker", name := "nearWord", desc := "(LHeaveSongs$Row;Ljava/util/ArrayList;I)I" } : Jvm.MethodName)) ∈ gt := gt_mem 777 (by decide +kernel) rfl
theorem tw_736 : (Jvm.Cond.instanceMethod ({ cls := "HeaveSongs$LineMaker", name := "nearWord", desc := "(LHeaveSongs$Row;Ljava/util/ArrayList;I)I" } : Jvm.MethodName)) ∈ gt := gt_mem 779 (by decide +kernel) rfl
theorem tw_737 : (Jvm.Cond.code ({ cls := "HeaveSongs$LineMaker", name := "nearWord", desc := "(LHeaveSongs$Row;Ljava/util/ArrayList;I)I" } : Jvm.MethodName) prog_6_method_11_code (5 : Nat) (Option.some Jvm.ClassFile.FieldType.int)) ∈ gt := gt_mem 780 (by decide +kernel) rfl
theorem tw_738 : (Jvm.Cond.methodLink "HeaveSongs$LineMaker" (69 : Nat) ({ cls := "HeaveSongs$LineMaker", name := "wrongWith", desc := "(LHeaveSongs$Word;LHeaveSongs$Row;I)I" } : Jvm.MethodName)) ∈ gt := gt_mem 781 (by decide +kernel) rfl
theorem tw_740 : (Jvm.Cond.instanceMethod ({ cls := "HeaveSongs$LineMaker", name := "wrongWith", desc := "(LHeaveSongs$Word;LHeaveSongs$Row;I)I" } : Jvm.MethodName)) ∈ gt := gt_mem 783 (by decide +kernel) rfl
theorem tw_741 : (Jvm.Cond.code ({ cls := "HeaveSongs$LineMaker", name := "wrongWith", desc := "(LHeaveSongs$Word;LHeaveSongs$Row;I)I" } : Jvm.MethodName) prog_6_method_6_code (5 : Nat) (Option.some Jvm.ClassFile.FieldType.int)) ∈ gt := gt_mem 784 (by decide +kernel) rfl
theorem tw_742 : (Jvm.Cond.methodLink "HeaveSongs$LineMaker" (93 : Nat) ({ cls := "HeaveSongs$LineMaker", name := "countedWord", desc := "(LHeaveSongs$Row;Ljava/util/ArrayList;I)I" } : Jvm.MethodName)) ∈ gt := gt_mem 785 (by decide +kernel) rfl
theorem tw_744 : (Jvm.Cond.instanceMethod ({ cls := "HeaveSongs$LineMaker", name := "countedWord", desc := "(LHeaveSongs$Row;Ljava/util/ArrayList;I)I" } : Jvm.MethodName)) ∈ gt := gt_mem 787 (by decide +kernel) rfl
theorem tw_745 : (Jvm.Cond.code ({ cls := "HeaveSongs$LineMaker", name := "countedWord", desc := "(LHeaveSongs$Row;Ljava/util/ArrayList;I)I" } : Jvm.MethodName) prog_6_method_10_code (8 : Nat) (Option.some Jvm.ClassFile.FieldType.int)) ∈ gt := gt_mem 788 (by decide +kernel) rfl
theorem tw_746 : (Jvm.Cond.methodLink "HeaveSongs" (235 : Nat) ({ cls := "HeaveSongs$LineMaker", name := "wordAt", desc := "(I)I" } : Jvm.MethodName)) ∈ gt := gt_mem 789 (by decide +kernel) rfl
theorem tw_747 : (Jvm.Cond.instanceMethod ({ cls := "HeaveSongs$LineMaker", name := "wordAt", desc := "(I)I" } : Jvm.MethodName)) ∈ gt := gt_mem 790 (by decide +kernel) rfl
theorem tw_748 : (Jvm.Cond.selects "HeaveSongs$LineMaker" ({ cls := "HeaveSongs$LineMaker", name := "wordAt", desc := "(I)I" } : Jvm.MethodName) ({ cls := "HeaveSongs$LineMaker", name := "wordAt", desc := "(I)I" } : Jvm.MethodName)) ∈ gt := gt_mem 791 (by decide +kernel) rfl
theorem tw_749 : (Jvm.Cond.code ({ cls := "HeaveSongs$LineMaker", name := "wordAt", desc := "(I)I" } : Jvm.MethodName) prog_6_method_12_code (2 : Nat) (Option.some Jvm.ClassFile.FieldType.int)) ∈ gt := gt_mem 792 (by decide +kernel) rfl
theorem tw_751 : (Jvm.Cond.methodLink "HeaveSongsLaw" (110 : Nat) ({ cls := "HeaveSongs", name := "near", desc := "(I)I" } : Jvm.MethodName)) ∈ gt := gt_mem 794 (by decide +kernel) rfl
theorem tw_752 : (Jvm.Cond.instanceMethod ({ cls := "HeaveSongs", name := "near", desc := "(I)I" } : Jvm.MethodName)) ∈ gt := gt_mem 795 (by decide +kernel) rfl
theorem tw_753 : (Jvm.Cond.selects "HeaveSongs" ({ cls := "HeaveSongs", name := "near", desc := "(I)I" } : Jvm.MethodName) ({ cls := "HeaveSongs", name := "near", desc := "(I)I" } : Jvm.MethodName)) ∈ gt := gt_mem 796 (by decide +kernel) rfl
theorem tw_754 : (Jvm.Cond.code ({ cls := "HeaveSongs", name := "near", desc := "(I)I" } : Jvm.MethodName) prog_1_method_24_code (3 : Nat) (Option.some Jvm.ClassFile.FieldType.int)) ∈ gt := gt_mem 797 (by decide +kernel) rfl
theorem tw_755 : (Jvm.Cond.methodLink "HeaveSongs" (238 : Nat) ({ cls := "HeaveSongs$LineMaker", name := "fewestWrong", desc := "(LHeaveSongs$Row;Ljava/util/ArrayList;)I" } : Jvm.MethodName)) ∈ gt := gt_mem 798 (by decide +kernel) rfl
theorem tw_756 : (Jvm.Cond.instanceMethod ({ cls := "HeaveSongs$LineMaker", name := "fewestWrong", desc := "(LHeaveSongs$Row;Ljava/util/ArrayList;)I" } : Jvm.MethodName)) ∈ gt := gt_mem 799 (by decide +kernel) rfl
theorem tw_757 : (Jvm.Cond.selects "HeaveSongs$LineMaker" ({ cls := "HeaveSongs$LineMaker", name := "fewestWrong", desc := "(LHeaveSongs$Row;Ljava/util/ArrayList;)I" } : Jvm.MethodName) ({ cls := "HeaveSongs$LineMaker", name := "fewestWrong", desc := "(LHeaveSongs$Row;Ljava/util/ArrayList;)I" } : Jvm.MethodName)) ∈ gt := gt_mem 800 (by decide +kernel) rfl
theorem tw_758 : (Jvm.Cond.code ({ cls := "HeaveSongs$LineMaker", name := "fewestWrong", desc := "(LHeaveSongs$Row;Ljava/util/ArrayList;)I" } : Jvm.MethodName) prog_6_method_4_code (4 : Nat) (Option.some Jvm.ClassFile.FieldType.int)) ∈ gt := gt_mem 801 (by decide +kernel) rfl
theorem tw_759 : (Jvm.Cond.methodLink "HeaveSongs$LineMaker" (65 : Nat) ({ cls := "HeaveSongs$LineMaker", name := "leastWrong", desc := "(LHeaveSongs$Row;Ljava/util/ArrayList;I)I" } : Jvm.MethodName)) ∈ gt := gt_mem 802 (by decide +kernel) rfl
theorem tw_761 : (Jvm.Cond.instanceMethod ({ cls := "HeaveSongs$LineMaker", name := "leastWrong", desc := "(LHeaveSongs$Row;Ljava/util/ArrayList;I)I" } : Jvm.MethodName)) ∈ gt := gt_mem 804 (by decide +kernel) rfl
theorem tw_762 : (Jvm.Cond.code ({ cls := "HeaveSongs$LineMaker", name := "leastWrong", desc := "(LHeaveSongs$Row;Ljava/util/ArrayList;I)I" } : Jvm.MethodName) prog_6_method_5_code (7 : Nat) (Option.some Jvm.ClassFile.FieldType.int)) ∈ gt := gt_mem 805 (by decide +kernel) rfl
theorem tw_763 : (Jvm.Cond.methodLink "HeaveSongsLaw" (114 : Nat) ({ cls := "HeaveSongs", name := "nearAt", desc := "(II)I" } : Jvm.MethodName)) ∈ gt := gt_mem 806 (by decide +kernel) rfl
theorem tw_764 : (Jvm.Cond.instanceMethod ({ cls := "HeaveSongs", name := "nearAt", desc := "(II)I" } : Jvm.MethodName)) ∈ gt := gt_mem 807 (by decide +kernel) rfl
theorem tw_765 : (Jvm.Cond.selects "HeaveSongs" ({ cls := "HeaveSongs", name := "nearAt", desc := "(II)I" } : Jvm.MethodName) ({ cls := "HeaveSongs", name := "nearAt", desc := "(II)I" } : Jvm.MethodName)) ∈ gt := gt_mem 808 (by decide +kernel) rfl
theorem tw_766 : (Jvm.Cond.code ({ cls := "HeaveSongs", name := "nearAt", desc := "(II)I" } : Jvm.MethodName) prog_1_method_25_code (4 : Nat) (Option.some Jvm.ClassFile.FieldType.int)) ∈ gt := gt_mem 809 (by decide +kernel) rfl
theorem tw_767 : (Jvm.Cond.methodLink "HeaveSongs" (242 : Nat) ({ cls := "HeaveSongs$LineMaker", name := "makeNearLine", desc := "(LHeaveSongs$Row;Ljava/util/ArrayList;)V" } : Jvm.MethodName)) ∈ gt := gt_mem 810 (by decide +kernel) rfl
theorem tw_768 : (Jvm.Cond.instanceMethod ({ cls := "HeaveSongs$LineMaker", name := "makeNearLine", desc := "(LHeaveSongs$Row;Ljava/util/ArrayList;)V" } : Jvm.MethodName)) ∈ gt := gt_mem 811 (by decide +kernel) rfl
theorem tw_769 : (Jvm.Cond.selects "HeaveSongs$LineMaker" ({ cls := "HeaveSongs$LineMaker", name := "makeNearLine", desc := "(LHeaveSongs$Row;Ljava/util/ArrayList;)V" } : Jvm.MethodName) ({ cls := "HeaveSongs$LineMaker", name := "makeNearLine", desc := "(LHeaveSongs$Row;Ljava/util/ArrayList;)V" } : Jvm.MethodName)) ∈ gt := gt_mem 812 (by decide +kernel) rfl
theorem tw_770 : (Jvm.Cond.code ({ cls := "HeaveSongs$LineMaker", name := "makeNearLine", desc := "(LHeaveSongs$Row;Ljava/util/ArrayList;)V" } : Jvm.MethodName) prog_6_method_8_code (3 : Nat) (Option.none : Option Jvm.ClassFile.FieldType)) ∈ gt := gt_mem 813 (by decide +kernel) rfl
theorem tw_771 : (Jvm.Cond.methodLink "HeaveSongs$LineMaker" (86 : Nat) ({ cls := "HeaveSongs$LineMaker", name := "fewestWrong", desc := "(LHeaveSongs$Row;Ljava/util/ArrayList;)I" } : Jvm.MethodName)) ∈ gt := gt_mem 814 (by decide +kernel) rfl
theorem tw_772 : (Jvm.Cond.methodLink "HeaveSongsLaw" (118 : Nat) ({ cls := "HeaveSongs", name := "mark", desc := "(II)I" } : Jvm.MethodName)) ∈ gt := gt_mem 815 (by decide +kernel) rfl
theorem tw_773 : (Jvm.Cond.instanceMethod ({ cls := "HeaveSongs", name := "mark", desc := "(II)I" } : Jvm.MethodName)) ∈ gt := gt_mem 816 (by decide +kernel) rfl
theorem tw_774 : (Jvm.Cond.selects "HeaveSongs" ({ cls := "HeaveSongs", name := "mark", desc := "(II)I" } : Jvm.MethodName) ({ cls := "HeaveSongs", name := "mark", desc := "(II)I" } : Jvm.MethodName)) ∈ gt := gt_mem 817 (by decide +kernel) rfl
theorem tw_775 : (Jvm.Cond.code ({ cls := "HeaveSongs", name := "mark", desc := "(II)I" } : Jvm.MethodName) prog_1_method_26_code (3 : Nat) (Option.some Jvm.ClassFile.FieldType.int)) ∈ gt := gt_mem 818 (by decide +kernel) rfl
theorem tw_776 : (Jvm.Cond.methodLink "HeaveSongs" (246 : Nat) ({ cls := "HeaveSongs$Marks", name := "add", desc := "(II)Z" } : Jvm.MethodName)) ∈ gt := gt_mem 819 (by decide +kernel) rfl
theorem tw_777 : (Jvm.Cond.instanceMethod ({ cls := "HeaveSongs$Marks", name := "add", desc := "(II)Z" } : Jvm.MethodName)) ∈ gt := gt_mem 820 (by decide +kernel) rfl
theorem tw_778 : (Jvm.Cond.selects "HeaveSongs$Marks" ({ cls := "HeaveSongs$Marks", name := "add", desc := "(II)Z" } : Jvm.MethodName) ({ cls := "HeaveSongs$Marks", name := "add", desc := "(II)Z" } : Jvm.MethodName)) ∈ gt := gt_mem 821 (by decide +kernel) rfl
theorem tw_779 : (Jvm.Cond.code ({ cls := "HeaveSongs$Marks", name := "add", desc := "(II)Z" } : Jvm.MethodName) prog_7_method_2_code (3 : Nat) (Option.some Jvm.ClassFile.FieldType.boolean)) ∈ gt := gt_mem 822 (by decide +kernel) rfl
theorem tw_780 : (Jvm.Cond.methodLink "HeaveSongsLaw" (122 : Nat) ({ cls := "HeaveSongs", name := "wipe", desc := "()I" } : Jvm.MethodName)) ∈ gt := gt_mem 823 (by decide +kernel) rfl
theorem tw_781 : (Jvm.Cond.instanceMethod ({ cls := "HeaveSongs", name := "wipe", desc := "()I" } : Jvm.MethodName)) ∈ gt := gt_mem 824 (by decide +kernel) rfl
theorem tw_782 : (Jvm.Cond.selects "HeaveSongs" ({ cls := "HeaveSongs", name := "wipe", desc := "()I" } : Jvm.MethodName) ({ cls := "HeaveSongs", name := "wipe", desc := "()I" } : Jvm.MethodName)) ∈ gt := gt_mem 825 (by decide +kernel) rfl
theorem tw_783 : (Jvm.Cond.code ({ cls := "HeaveSongs", name := "wipe", desc := "()I" } : Jvm.MethodName) prog_1_method_27_code (2 : Nat) (Option.some Jvm.ClassFile.FieldType.int)) ∈ gt := gt_mem 826 (by decide +kernel) rfl
theorem tw_784 : (Jvm.Cond.methodLink "HeaveSongsLaw" (126 : Nat) ({ cls := "HeaveSongs", name := "who", desc := "(IIII)I" } : Jvm.MethodName)) ∈ gt := gt_mem 827 (by decide +kernel) rfl
theorem tw_785 : (Jvm.Cond.instanceMethod ({ cls := "HeaveSongs", name := "who", desc := "(IIII)I" } : Jvm.MethodName)) ∈ gt := gt_mem 828 (by decide +kernel) rfl
theorem tw_786 : (Jvm.Cond.selects "HeaveSongs" ({ cls := "HeaveSongs", name := "who", desc := "(IIII)I" } : Jvm.MethodName) ({ cls := "HeaveSongs", name := "who", desc := "(IIII)I" } : Jvm.MethodName)) ∈ gt := gt_mem 829 (by decide +kernel) rfl
theorem tw_787 : (Jvm.Cond.code ({ cls := "HeaveSongs", name := "who", desc := "(IIII)I" } : Jvm.MethodName) prog_1_method_28_code (6 : Nat) (Option.some Jvm.ClassFile.FieldType.int)) ∈ gt := gt_mem 830 (by decide +kernel) rfl
theorem tw_788 : (Jvm.Cond.methodLink "HeaveSongs" (253 : Nat) ({ cls := "HeaveSongs$LateSearch", name := "findOne", desc := "(LHeaveSongs$Hands;LHeaveSongs$Song;LHeaveSongs$Task;LHeaveSongs$Marks;)V" } : Jvm.MethodName)) ∈ gt := gt_mem 831 (by decide +kernel) rfl
theorem tw_789 : (Jvm.Cond.instanceMethod ({ cls := "HeaveSongs$LateSearch", name := "findOne", desc := "(LHeaveSongs$Hands;LHeaveSongs$Song;LHeaveSongs$Task;LHeaveSongs$Marks;)V" } : Jvm.MethodName)) ∈ gt := gt_mem 832 (by decide +kernel) rfl
theorem tw_790 : (Jvm.Cond.selects "HeaveSongs$LateSearch" ({ cls := "HeaveSongs$LateSearch", name := "findOne", desc := "(LHeaveSongs$Hands;LHeaveSongs$Song;LHeaveSongs$Task;LHeaveSongs$Marks;)V" } : Jvm.MethodName) ({ cls := "HeaveSongs$LateSearch", name := "findOne", desc := "(LHeaveSongs$Hands;LHeaveSongs$Song;LHeaveSongs$Task;LHeaveSongs$Marks;)V" } : Jvm.MethodName)) ∈ gt := gt_mem 833 (by decide +kernel) rfl
theorem tw_791 : (Jvm.Cond.code ({ cls := "HeaveSongs$LateSearch", name := "findOne", desc := "(LHeaveSongs$Hands;LHeaveSongs$Song;LHeaveSongs$Task;LHeaveSongs$Marks;)V" } : Jvm.MethodName) prog_5_method_2_code (8 : Nat) (Option.none : Option Jvm.ClassFile.FieldType)) ∈ gt := gt_mem 834 (by decide +kernel) rfl
theorem tw_792 : (Jvm.Cond.methodLink "HeaveSongs$LateSearch" (25 : Nat) ({ cls := "HeaveSongs$Haul", name := "beginFresh", desc := "(LHeaveSongs$Hands;)V" } : Jvm.MethodName)) ∈ gt := gt_mem 835 (by decide +kernel) rfl
theorem tw_793 : (Jvm.Cond.instanceMethod ({ cls := "HeaveSongs$Haul", name := "beginFresh", desc := "(LHeaveSongs$Hands;)V" } : Jvm.MethodName)) ∈ gt := gt_mem 836 (by decide +kernel) rfl
theorem tw_794 : (Jvm.Cond.selects "HeaveSongs$Haul" ({ cls := "HeaveSongs$Haul", name := "beginFresh", desc := "(LHeaveSongs$Hands;)V" } : Jvm.MethodName) ({ cls := "HeaveSongs$Haul", name := "beginFresh", desc := "(LHeaveSongs$Hands;)V" } : Jvm.MethodName)) ∈ gt := gt_mem 837 (by decide +kernel) rfl
theorem tw_795 : (Jvm.Cond.code ({ cls := "HeaveSongs$Haul", name := "beginFresh", desc := "(LHeaveSongs$Hands;)V" } : Jvm.MethodName) prog_3_method_3_code (3 : Nat) (Option.none : Option Jvm.ClassFile.FieldType)) ∈ gt := gt_mem 838 (by decide +kernel) rfl
theorem tw_796 : (Jvm.Cond.methodLink "HeaveSongs$LateSearch" (29 : Nat) ({ cls := "HeaveSongs$LateSearch", name := "sumOfTrial", desc := "(LHeaveSongs$Hands;LHeaveSongs$Song;LHeaveSongs$Task;LHeaveSongs$Marks;)I" } : Jvm.MethodName)) ∈ gt := gt_mem 839 (by decide +kernel) rfl
theorem tw_798 : (Jvm.Cond.instanceMethod ({ cls := "HeaveSongs$LateSearch", name := "sumOfTrial", desc := "(LHeaveSongs$Hands;LHeaveSongs$Song;LHeaveSongs$Task;LHeaveSongs$Marks;)I" } : Jvm.MethodName)) ∈ gt := gt_mem 841 (by decide +kernel) rfl
theorem tw_799 : (Jvm.Cond.code ({ cls := "HeaveSongs$LateSearch", name := "sumOfTrial", desc := "(LHeaveSongs$Hands;LHeaveSongs$Song;LHeaveSongs$Task;LHeaveSongs$Marks;)I" } : Jvm.MethodName) prog_5_method_5_code (5 : Nat) (Option.some Jvm.ClassFile.FieldType.int)) ∈ gt := gt_mem 842 (by decide +kernel) rfl
theorem tw_800 : (Jvm.Cond.methodLink "HeaveSongs$LateSearch" (63 : Nat) ({ cls := "HeaveSongs$Marks", name := "span", desc := "()I" } : Jvm.MethodName)) ∈ gt := gt_mem 843 (by decide +kernel) rfl
theorem tw_801 : (Jvm.Cond.instanceMethod ({ cls := "HeaveSongs$Marks", name := "span", desc := "()I" } : Jvm.MethodName)) ∈ gt := gt_mem 844 (by decide +kernel) rfl
theorem tw_802 : (Jvm.Cond.selects "HeaveSongs$Marks" ({ cls := "HeaveSongs$Marks", name := "span", desc := "()I" } : Jvm.MethodName) ({ cls := "HeaveSongs$Marks", name := "span", desc := "()I" } : Jvm.MethodName)) ∈ gt := gt_mem 845 (by decide +kernel) rfl
theorem tw_803 : (Jvm.Cond.code ({ cls := "HeaveSongs$Marks", name := "span", desc := "()I" } : Jvm.MethodName) prog_7_method_3_code (3 : Nat) (Option.some Jvm.ClassFile.FieldType.int)) ∈ gt := gt_mem 846 (by decide +kernel) rfl
theorem tw_804 : (Jvm.Cond.methodLink "HeaveSongs$Marks" (22 : Nat) ({ cls := "java/lang/Math", name := "max", desc := "(II)I" } : Jvm.MethodName)) ∈ gt := gt_mem 847 (by decide +kernel) rfl
theorem tw_805 : (Jvm.Cond.methodLink "HeaveSongs$LateSearch" (69 : Nat) ({ cls := "HeaveSongs$Haul", name := "go", desc := "(LHeaveSongs$Hands;LHeaveSongs$Song;LHeaveSongs$Task;I)Z" } : Jvm.MethodName)) ∈ gt := gt_mem 848 (by decide +kernel) rfl
theorem tw_806 : (Jvm.Cond.methodLink "HeaveSongs$LateSearch" (76 : Nat) ({ cls := "HeaveSongs$Marks", name := "differenceTo", desc := "([I)I" } : Jvm.MethodName)) ∈ gt := gt_mem 849 (by decide +kernel) rfl
theorem tw_807 : (Jvm.Cond.instanceMethod ({ cls := "HeaveSongs$Marks", name := "differenceTo", desc := "([I)I" } : Jvm.MethodName)) ∈ gt := gt_mem 850 (by decide +kernel) rfl
theorem tw_808 : (Jvm.Cond.selects "HeaveSongs$Marks" ({ cls := "HeaveSongs$Marks", name := "differenceTo", desc := "([I)I" } : Jvm.MethodName) ({ cls := "HeaveSongs$Marks", name := "differenceTo", desc := "([I)I" } : Jvm.MethodName)) ∈ gt := gt_mem 851 (by decide +kernel) rfl
theorem tw_809 : (Jvm.Cond.code ({ cls := "HeaveSongs$Marks", name := "differenceTo", desc := "([I)I" } : Jvm.MethodName) prog_7_method_4_code (4 : Nat) (Option.some Jvm.ClassFile.FieldType.int)) ∈ gt := gt_mem 852 (by decide +kernel) rfl
theorem tw_811 : (Jvm.Cond.methodLink "HeaveSongs$Marks" (32 : Nat) ({ cls := "java/lang/Math", name := "abs", desc := "(I)I" } : Jvm.MethodName)) ∈ gt := gt_mem 854 (by decide +kernel) rfl
theorem tw_812 : (Jvm.Cond.static ({ cls := "java/lang/Math", name := "abs", desc := "(I)I" } : Jvm.MethodName)) ∈ gt := gt_mem 855 (by decide +kernel) rfl
theorem tw_813 : (Jvm.Cond.code ({ cls := "java/lang/Math", name := "abs", desc := "(I)I" } : Jvm.MethodName) prog_19_method_59_code (1 : Nat) (Option.some Jvm.ClassFile.FieldType.int)) ∈ gt := gt_mem 856 (by decide +kernel) rfl
theorem tw_815 : (Jvm.Cond.methodLink "HeaveSongsLaw" (130 : Nat) ({ cls := "HeaveSongs", name := "two", desc := "(IIII)I" } : Jvm.MethodName)) ∈ gt := gt_mem 858 (by decide +kernel) rfl
theorem tw_816 : (Jvm.Cond.instanceMethod ({ cls := "HeaveSongs", name := "two", desc := "(IIII)I" } : Jvm.MethodName)) ∈ gt := gt_mem 859 (by decide +kernel) rfl
theorem tw_817 : (Jvm.Cond.selects "HeaveSongs" ({ cls := "HeaveSongs", name := "two", desc := "(IIII)I" } : Jvm.MethodName) ({ cls := "HeaveSongs", name := "two", desc := "(IIII)I" } : Jvm.MethodName)) ∈ gt := gt_mem 860 (by decide +kernel) rfl
theorem tw_818 : (Jvm.Cond.code ({ cls := "HeaveSongs", name := "two", desc := "(IIII)I" } : Jvm.MethodName) prog_1_method_29_code (6 : Nat) (Option.some Jvm.ClassFile.FieldType.int)) ∈ gt := gt_mem 861 (by decide +kernel) rfl
theorem tw_819 : (Jvm.Cond.methodLink "HeaveSongs" (266 : Nat) ({ cls := "java/lang/Integer", name := "bitCount", desc := "(I)I" } : Jvm.MethodName)) ∈ gt := gt_mem 862 (by decide +kernel) rfl
theorem tw_820 : (Jvm.Cond.methodLink "HeaveSongs" (271 : Nat) ({ cls := "HeaveSongs$LateSearch", name := "findTwo", desc := "(LHeaveSongs$Hands;LHeaveSongs$Song;LHeaveSongs$Task;LHeaveSongs$Marks;)V" } : Jvm.MethodName)) ∈ gt := gt_mem 863 (by decide +kernel) rfl
theorem tw_821 : (Jvm.Cond.instanceMethod ({ cls := "HeaveSongs$LateSearch", name := "findTwo", desc := "(LHeaveSongs$Hands;LHeaveSongs$Song;LHeaveSongs$Task;LHeaveSongs$Marks;)V" } : Jvm.MethodName)) ∈ gt := gt_mem 864 (by decide +kernel) rfl
theorem tw_822 : (Jvm.Cond.selects "HeaveSongs$LateSearch" ({ cls := "HeaveSongs$LateSearch", name := "findTwo", desc := "(LHeaveSongs$Hands;LHeaveSongs$Song;LHeaveSongs$Task;LHeaveSongs$Marks;)V" } : Jvm.MethodName) ({ cls := "HeaveSongs$LateSearch", name := "findTwo", desc := "(LHeaveSongs$Hands;LHeaveSongs$Song;LHeaveSongs$Task;LHeaveSongs$Marks;)V" } : Jvm.MethodName)) ∈ gt := gt_mem 865 (by decide +kernel) rfl
theorem tw_823 : (Jvm.Cond.code ({ cls := "HeaveSongs$LateSearch", name := "findTwo", desc := "(LHeaveSongs$Hands;LHeaveSongs$Song;LHeaveSongs$Task;LHeaveSongs$Marks;)V" } : Jvm.MethodName) prog_5_method_3_code (7 : Nat) (Option.none : Option Jvm.ClassFile.FieldType)) ∈ gt := gt_mem 866 (by decide +kernel) rfl
theorem tw_824 : (Jvm.Cond.constant "HeaveSongs$LateSearch" (52 : Nat) (1000000000 : Int32)) ∈ gt := gt_mem 867 (by decide +kernel) rfl
theorem tw_825 : (Jvm.Cond.methodLink "HeaveSongs$LateSearch" (53 : Nat) ({ cls := "HeaveSongs$LateSearch", name := "tryPair", desc := "(LHeaveSongs$Hands;LHeaveSongs$Song;LHeaveSongs$Task;LHeaveSongs$Marks;II)V" } : Jvm.MethodName)) ∈ gt := gt_mem 868 (by decide +kernel) rfl
theorem tw_827 : (Jvm.Cond.instanceMethod ({ cls := "HeaveSongs$LateSearch", name := "tryPair", desc := "(LHeaveSongs$Hands;LHeaveSongs$Song;LHeaveSongs$Task;LHeaveSongs$Marks;II)V" } : Jvm.MethodName)) ∈ gt := gt_mem 870 (by decide +kernel) rfl
theorem tw_828 : (Jvm.Cond.code ({ cls := "HeaveSongs$LateSearch", name := "tryPair", desc := "(LHeaveSongs$Hands;LHeaveSongs$Song;LHeaveSongs$Task;LHeaveSongs$Marks;II)V" } : Jvm.MethodName) prog_5_method_4_code (10 : Nat) (Option.none : Option Jvm.ClassFile.FieldType)) ∈ gt := gt_mem 871 (by decide +kernel) rfl
theorem tw_829 : (Jvm.Cond.methodLink "HeaveSongsLaw" (134 : Nat) ({ cls := "HeaveSongs", name := "apart", desc := "(II)I" } : Jvm.MethodName)) ∈ gt := gt_mem 872 (by decide +kernel) rfl
theorem tw_830 : (Jvm.Cond.instanceMethod ({ cls := "HeaveSongs", name := "apart", desc := "(II)I" } : Jvm.MethodName)) ∈ gt := gt_mem 873 (by decide +kernel) rfl
theorem tw_831 : (Jvm.Cond.selects "HeaveSongs" ({ cls := "HeaveSongs", name := "apart", desc := "(II)I" } : Jvm.MethodName) ({ cls := "HeaveSongs", name := "apart", desc := "(II)I" } : Jvm.MethodName)) ∈ gt := gt_mem 874 (by decide +kernel) rfl
theorem tw_832 : (Jvm.Cond.code ({ cls := "HeaveSongs", name := "apart", desc := "(II)I" } : Jvm.MethodName) prog_1_method_30_code (5 : Nat) (Option.some Jvm.ClassFile.FieldType.int)) ∈ gt := gt_mem 875 (by decide +kernel) rfl
theorem tw_833 : (Jvm.Cond.methodLink "HeaveSongs" (280 : Nat) ({ cls := "HeaveSongs$Kin", name := "distance", desc := "(LHeaveSongs$Song;LHeaveSongs$Song;)I" } : Jvm.MethodName)) ∈ gt := gt_mem 876 (by decide +kernel) rfl
theorem tw_834 : (Jvm.Cond.instanceMethod ({ cls := "HeaveSongs$Kin", name := "distance", desc := "(LHeaveSongs$Song;LHeaveSongs$Song;)I" } : Jvm.MethodName)) ∈ gt := gt_mem 877 (by decide +kernel) rfl
theorem tw_835 : (Jvm.Cond.selects "HeaveSongs$Kin" ({ cls := "HeaveSongs$Kin", name := "distance", desc := "(LHeaveSongs$Song;LHeaveSongs$Song;)I" } : Jvm.MethodName) ({ cls := "HeaveSongs$Kin", name := "distance", desc := "(LHeaveSongs$Song;LHeaveSongs$Song;)I" } : Jvm.MethodName)) ∈ gt := gt_mem 878 (by decide +kernel) rfl
theorem tw_836 : (Jvm.Cond.code ({ cls := "HeaveSongs$Kin", name := "distance", desc := "(LHeaveSongs$Song;LHeaveSongs$Song;)I" } : Jvm.MethodName) prog_4_method_2_code (3 : Nat) (Option.some Jvm.ClassFile.FieldType.int)) ∈ gt := gt_mem 879 (by decide +kernel) rfl
theorem tw_837 : (Jvm.Cond.methodLink "HeaveSongs$Kin" (28 : Nat) ({ cls := "HeaveSongs$Kin", name := "changes", desc := "(LHeaveSongs$Row;LHeaveSongs$Row;)I" } : Jvm.MethodName)) ∈ gt := gt_mem 880 (by decide +kernel) rfl
theorem tw_839 : (Jvm.Cond.instanceMethod ({ cls := "HeaveSongs$Kin", name := "changes", desc := "(LHeaveSongs$Row;LHeaveSongs$Row;)I" } : Jvm.MethodName)) ∈ gt := gt_mem 882 (by decide +kernel) rfl
theorem tw_840 : (Jvm.Cond.code ({ cls := "HeaveSongs$Kin", name := "changes", desc := "(LHeaveSongs$Row;LHeaveSongs$Row;)I" } : Jvm.MethodName) prog_4_method_3_code (8 : Nat) (Option.some Jvm.ClassFile.FieldType.int)) ∈ gt := gt_mem 883 (by decide +kernel) rfl
theorem tw_841 : (Jvm.Cond.methodLink "HeaveSongs$Kin" (44 : Nat) ({ cls := "java/lang/Math", name := "min", desc := "(II)I" } : Jvm.MethodName)) ∈ gt := gt_mem 884 (by decide +kernel) rfl
theorem tw_842 : (Jvm.Cond.methodLink "HeaveSongsLaw" (138 : Nat) ({ cls := "HeaveSongs", name := "hangs", desc := "(I)I" } : Jvm.MethodName)) ∈ gt := gt_mem 885 (by decide +kernel) rfl
theorem tw_843 : (Jvm.Cond.instanceMethod ({ cls := "HeaveSongs", name := "hangs", desc := "(I)I" } : Jvm.MethodName)) ∈ gt := gt_mem 886 (by decide +kernel) rfl
theorem tw_844 : (Jvm.Cond.selects "HeaveSongs" ({ cls := "HeaveSongs", name := "hangs", desc := "(I)I" } : Jvm.MethodName) ({ cls := "HeaveSongs", name := "hangs", desc := "(I)I" } : Jvm.MethodName)) ∈ gt := gt_mem 887 (by decide +kernel) rfl
theorem tw_845 : (Jvm.Cond.code ({ cls := "HeaveSongs", name := "hangs", desc := "(I)I" } : Jvm.MethodName) prog_1_method_31_code (2 : Nat) (Option.some Jvm.ClassFile.FieldType.int)) ∈ gt := gt_mem 888 (by decide +kernel) rfl
theorem tw_846 : (Jvm.Cond.methodLink "HeaveSongs" (284 : Nat) ({ cls := "HeaveSongs$Kin", name := "growTree", desc := "(Ljava/util/ArrayList;)I" } : Jvm.MethodName)) ∈ gt := gt_mem 889 (by decide +kernel) rfl
theorem tw_847 : (Jvm.Cond.instanceMethod ({ cls := "HeaveSongs$Kin", name := "growTree", desc := "(Ljava/util/ArrayList;)I" } : Jvm.MethodName)) ∈ gt := gt_mem 890 (by decide +kernel) rfl
theorem tw_848 : (Jvm.Cond.selects "HeaveSongs$Kin" ({ cls := "HeaveSongs$Kin", name := "growTree", desc := "(Ljava/util/ArrayList;)I" } : Jvm.MethodName) ({ cls := "HeaveSongs$Kin", name := "growTree", desc := "(Ljava/util/ArrayList;)I" } : Jvm.MethodName)) ∈ gt := gt_mem 891 (by decide +kernel) rfl
theorem tw_849 : (Jvm.Cond.code ({ cls := "HeaveSongs$Kin", name := "growTree", desc := "(Ljava/util/ArrayList;)I" } : Jvm.MethodName) prog_4_method_4_code (4 : Nat) (Option.some Jvm.ClassFile.FieldType.int)) ∈ gt := gt_mem 892 (by decide +kernel) rfl
theorem tw_850 : (Jvm.Cond.methodLink "HeaveSongs$Kin" (50 : Nat) ({ cls := "java/util/ArrayList", name := "size", desc := "()I" } : Jvm.MethodName)) ∈ gt := gt_mem 893 (by decide +kernel) rfl
theorem tw_851 : (Jvm.Cond.methodLink "HeaveSongs$Kin" (55 : Nat) ({ cls := "HeaveSongs$Kin", name := "hangNearest", desc := "(Ljava/util/ArrayList;)I" } : Jvm.MethodName)) ∈ gt := gt_mem 894 (by decide +kernel) rfl
theorem tw_853 : (Jvm.Cond.instanceMethod ({ cls := "HeaveSongs$Kin", name := "hangNearest", desc := "(Ljava/util/ArrayList;)I" } : Jvm.MethodName)) ∈ gt := gt_mem 896 (by decide +kernel) rfl
theorem tw_854 : (Jvm.Cond.code ({ cls := "HeaveSongs$Kin", name := "hangNearest", desc := "(Ljava/util/ArrayList;)I" } : Jvm.MethodName) prog_4_method_5_code (8 : Nat) (Option.some Jvm.ClassFile.FieldType.int)) ∈ gt := gt_mem 897 (by decide +kernel) rfl
theorem tw_855 : (Jvm.Cond.constant "HeaveSongs$Kin" (59 : Nat) (1000000000 : Int32)) ∈ gt := gt_mem 898 (by decide +kernel) rfl
theorem tw_856 : (Jvm.Cond.methodLink "HeaveSongs$Kin" (60 : Nat) ({ cls := "java/util/ArrayList", name := "get", desc := "(I)Ljava/lang/Object;" } : Jvm.MethodName)) ∈ gt := gt_mem 899 (by decide +kernel) rfl
theorem tw_857 : (Jvm.Cond.classLink "HeaveSongs$Kin" (23 : Nat) "HeaveSongs$Song") ∈ gt := gt_mem 900 (by decide +kernel) rfl
theorem tw_858 : (Jvm.Cond.methodLink "HeaveSongs$Kin" (64 : Nat) ({ cls := "HeaveSongs$Kin", name := "distance", desc := "(LHeaveSongs$Song;LHeaveSongs$Song;)I" } : Jvm.MethodName)) ∈ gt := gt_mem 901 (by decide +kernel) rfl
theorem tw_859 : (Jvm.Cond.methodLink "HeaveSongsLaw" (142 : Nat) ({ cls := "HeaveSongs", name := "tree", desc := "()I" } : Jvm.MethodName)) ∈ gt := gt_mem 902 (by decide +kernel) rfl
theorem tw_860 : (Jvm.Cond.instanceMethod ({ cls := "HeaveSongs", name := "tree", desc := "()I" } : Jvm.MethodName)) ∈ gt := gt_mem 903 (by decide +kernel) rfl
theorem tw_861 : (Jvm.Cond.selects "HeaveSongs" ({ cls := "HeaveSongs", name := "tree", desc := "()I" } : Jvm.MethodName) ({ cls := "HeaveSongs", name := "tree", desc := "()I" } : Jvm.MethodName)) ∈ gt := gt_mem 904 (by decide +kernel) rfl
theorem tw_862 : (Jvm.Cond.code ({ cls := "HeaveSongs", name := "tree", desc := "()I" } : Jvm.MethodName) prog_1_method_32_code (1 : Nat) (Option.some Jvm.ClassFile.FieldType.int)) ∈ gt := gt_mem 905 (by decide +kernel) rfl
theorem tw_863 : (Jvm.Cond.methodLink "HeaveSongsLaw" (146 : Nat) ({ cls := "HeaveSongs", name := "count", desc := "(I)I" } : Jvm.MethodName)) ∈ gt := gt_mem 906 (by decide +kernel) rfl
theorem tw_864 : (Jvm.Cond.instanceMethod ({ cls := "HeaveSongs", name := "count", desc := "(I)I" } : Jvm.MethodName)) ∈ gt := gt_mem 907 (by decide +kernel) rfl
theorem tw_865 : (Jvm.Cond.selects "HeaveSongs" ({ cls := "HeaveSongs", name := "count", desc := "(I)I" } : Jvm.MethodName) ({ cls := "HeaveSongs", name := "count", desc := "(I)I" } : Jvm.MethodName)) ∈ gt := gt_mem 908 (by decide +kernel) rfl
theorem tw_866 : (Jvm.Cond.code ({ cls := "HeaveSongs", name := "count", desc := "(I)I" } : Jvm.MethodName) prog_1_method_33_code (2 : Nat) (Option.some Jvm.ClassFile.FieldType.int)) ∈ gt := gt_mem 909 (by decide +kernel) rfl
theorem tw_867 : (Jvm.Cond.methodLink "HeaveSongsLaw" (150 : Nat) ({ cls := "HeaveSongs", name := "digest", desc := "()J" } : Jvm.MethodName)) ∈ gt := gt_mem 910 (by decide +kernel) rfl
theorem tw_868 : (Jvm.Cond.instanceMethod ({ cls := "HeaveSongs", name := "digest", desc := "()J" } : Jvm.MethodName)) ∈ gt := gt_mem 911 (by decide +kernel) rfl
theorem tw_869 : (Jvm.Cond.selects "HeaveSongs" ({ cls := "HeaveSongs", name := "digest", desc := "()J" } : Jvm.MethodName) ({ cls := "HeaveSongs", name := "digest", desc := "()J" } : Jvm.MethodName)) ∈ gt := gt_mem 912 (by decide +kernel) rfl
theorem tw_870 : (Jvm.Cond.code ({ cls := "HeaveSongs", name := "digest", desc := "()J" } : Jvm.MethodName) prog_1_method_34_code (4 : Nat) (Option.some Jvm.ClassFile.FieldType.long)) ∈ gt := gt_mem 913 (by decide +kernel) rfl
theorem tw_871 : (Jvm.Cond.constantLong "HeaveSongs" (291 : Nat) (283 : Int64)) ∈ gt := gt_mem 914 (by decide +kernel) rfl
theorem tw_872 : (Jvm.Cond.constantLong "HeaveSongs" (293 : Nat) (31 : Int64)) ∈ gt := gt_mem 915 (by decide +kernel) rfl
theorem tw_873 : (Jvm.Cond.methodLink "HeaveSongs" (295 : Nat) ({ cls := "HeaveSongs", name := "count", desc := "(I)I" } : Jvm.MethodName)) ∈ gt := gt_mem 916 (by decide +kernel) rfl
theorem tw_874 : (Jvm.Cond.methodLink "HeaveSongs" (298 : Nat) ({ cls := "HeaveSongs$Row", name := "mixedInto", desc := "(J)J" } : Jvm.MethodName)) ∈ gt := gt_mem 917 (by decide +kernel) rfl
theorem tw_875 : (Jvm.Cond.instanceMethod ({ cls := "HeaveSongs$Row", name := "mixedInto", desc := "(J)J" } : Jvm.MethodName)) ∈ gt := gt_mem 918 (by decide +kernel) rfl
theorem tw_876 : (Jvm.Cond.selects "HeaveSongs$Row" ({ cls := "HeaveSongs$Row", name := "mixedInto", desc := "(J)J" } : Jvm.MethodName) ({ cls := "HeaveSongs$Row", name := "mixedInto", desc := "(J)J" } : Jvm.MethodName)) ∈ gt := gt_mem 919 (by decide +kernel) rfl
theorem tw_877 : (Jvm.Cond.code ({ cls := "HeaveSongs$Row", name := "mixedInto", desc := "(J)J" } : Jvm.MethodName) prog_8_method_4_code (6 : Nat) (Option.some Jvm.ClassFile.FieldType.long)) ∈ gt := gt_mem 920 (by decide +kernel) rfl
theorem tw_878 : (Jvm.Cond.constantLong "HeaveSongs$Row" (23 : Nat) (31 : Int64)) ∈ gt := gt_mem 921 (by decide +kernel) rfl
theorem tw_879 : (Jvm.Cond.methodLink "HeaveSongs" (302 : Nat) ({ cls := "HeaveSongs$Song", name := "mixedInto", desc := "(J)J" } : Jvm.MethodName)) ∈ gt := gt_mem 922 (by decide +kernel) rfl
theorem tw_880 : (Jvm.Cond.instanceMethod ({ cls := "HeaveSongs$Song", name := "mixedInto", desc := "(J)J" } : Jvm.MethodName)) ∈ gt := gt_mem 923 (by decide +kernel) rfl
theorem tw_881 : (Jvm.Cond.selects "HeaveSongs$Song" ({ cls := "HeaveSongs$Song", name := "mixedInto", desc := "(J)J" } : Jvm.MethodName) ({ cls := "HeaveSongs$Song", name := "mixedInto", desc := "(J)J" } : Jvm.MethodName)) ∈ gt := gt_mem 924 (by decide +kernel) rfl
theorem tw_882 : (Jvm.Cond.code ({ cls := "HeaveSongs$Song", name := "mixedInto", desc := "(J)J" } : Jvm.MethodName) prog_9_method_3_code (5 : Nat) (Option.some Jvm.ClassFile.FieldType.long)) ∈ gt := gt_mem 925 (by decide +kernel) rfl
theorem tw_883 : (Jvm.Cond.constantLong "HeaveSongs$Song" (29 : Nat) (31 : Int64)) ∈ gt := gt_mem 926 (by decide +kernel) rfl
theorem tw_884 : (Jvm.Cond.methodLink "HeaveSongs$Song" (31 : Nat) ({ cls := "HeaveSongs$Row", name := "mixedInto", desc := "(J)J" } : Jvm.MethodName)) ∈ gt := gt_mem 927 (by decide +kernel) rfl
theorem tw_885 : (Jvm.Cond.methodLink "HeaveSongs" (303 : Nat) ({ cls := "HeaveSongs$Hands", name := "mixedInto", desc := "(J)J" } : Jvm.MethodName)) ∈ gt := gt_mem 928 (by decide +kernel) rfl
theorem tw_886 : (Jvm.Cond.instanceMethod ({ cls := "HeaveSongs$Hands", name := "mixedInto", desc := "(J)J" } : Jvm.MethodName)) ∈ gt := gt_mem 929 (by decide +kernel) rfl
theorem tw_887 : (Jvm.Cond.selects "HeaveSongs$Hands" ({ cls := "HeaveSongs$Hands", name := "mixedInto", desc := "(J)J" } : Jvm.MethodName) ({ cls := "HeaveSongs$Hands", name := "mixedInto", desc := "(J)J" } : Jvm.MethodName)) ∈ gt := gt_mem 930 (by decide +kernel) rfl
theorem tw_888 : (Jvm.Cond.code ({ cls := "HeaveSongs$Hands", name := "mixedInto", desc := "(J)J" } : Jvm.MethodName) prog_2_method_7_code (6 : Nat) (Option.some Jvm.ClassFile.FieldType.long)) ∈ gt := gt_mem 931 (by decide +kernel) rfl
theorem tw_889 : (Jvm.Cond.constantLong "HeaveSongs$Hands" (47 : Nat) (31 : Int64)) ∈ gt := gt_mem 932 (by decide +kernel) rfl
theorem tw_890 : (Jvm.Cond.methodLink "HeaveSongs" (304 : Nat) ({ cls := "HeaveSongs$Haul", name := "mixedInto", desc := "(J)J" } : Jvm.MethodName)) ∈ gt := gt_mem 933 (by decide +kernel) rfl
theorem tw_891 : (Jvm.Cond.instanceMethod ({ cls := "HeaveSongs$Haul", name := "mixedInto", desc := "(J)J" } : Jvm.MethodName)) ∈ gt := gt_mem 934 (by decide +kernel) rfl
theorem tw_892 : (Jvm.Cond.selects "HeaveSongs$Haul" ({ cls := "HeaveSongs$Haul", name := "mixedInto", desc := "(J)J" } : Jvm.MethodName) ({ cls := "HeaveSongs$Haul", name := "mixedInto", desc := "(J)J" } : Jvm.MethodName)) ∈ gt := gt_mem 935 (by decide +kernel) rfl
theorem tw_893 : (Jvm.Cond.code ({ cls := "HeaveSongs$Haul", name := "mixedInto", desc := "(J)J" } : Jvm.MethodName) prog_3_method_11_code (6 : Nat) (Option.some Jvm.ClassFile.FieldType.long)) ∈ gt := gt_mem 936 (by decide +kernel) rfl
theorem tw_894 : (Jvm.Cond.constantLong "HeaveSongs$Haul" (112 : Nat) (31 : Int64)) ∈ gt := gt_mem 937 (by decide +kernel) rfl
theorem tw_895 : (Jvm.Cond.methodLink "HeaveSongs" (305 : Nat) ({ cls := "HeaveSongs$Task", name := "mixedInto", desc := "(J)J" } : Jvm.MethodName)) ∈ gt := gt_mem 938 (by decide +kernel) rfl
theorem tw_896 : (Jvm.Cond.instanceMethod ({ cls := "HeaveSongs$Task", name := "mixedInto", desc := "(J)J" } : Jvm.MethodName)) ∈ gt := gt_mem 939 (by decide +kernel) rfl
theorem tw_897 : (Jvm.Cond.selects "HeaveSongs$Task" ({ cls := "HeaveSongs$Task", name := "mixedInto", desc := "(J)J" } : Jvm.MethodName) ({ cls := "HeaveSongs$Task", name := "mixedInto", desc := "(J)J" } : Jvm.MethodName)) ∈ gt := gt_mem 940 (by decide +kernel) rfl
theorem tw_898 : (Jvm.Cond.code ({ cls := "HeaveSongs$Task", name := "mixedInto", desc := "(J)J" } : Jvm.MethodName) prog_10_method_3_code (5 : Nat) (Option.some Jvm.ClassFile.FieldType.long)) ∈ gt := gt_mem 941 (by decide +kernel) rfl
theorem tw_899 : (Jvm.Cond.constantLong "HeaveSongs$Task" (25 : Nat) (31 : Int64)) ∈ gt := gt_mem 942 (by decide +kernel) rfl
theorem tw_900 : (Jvm.Cond.methodLink "HeaveSongs" (306 : Nat) ({ cls := "HeaveSongs$Word", name := "mixedInto", desc := "(J)J" } : Jvm.MethodName)) ∈ gt := gt_mem 943 (by decide +kernel) rfl
theorem tw_901 : (Jvm.Cond.instanceMethod ({ cls := "HeaveSongs$Word", name := "mixedInto", desc := "(J)J" } : Jvm.MethodName)) ∈ gt := gt_mem 944 (by decide +kernel) rfl
theorem tw_902 : (Jvm.Cond.selects "HeaveSongs$Word" ({ cls := "HeaveSongs$Word", name := "mixedInto", desc := "(J)J" } : Jvm.MethodName) ({ cls := "HeaveSongs$Word", name := "mixedInto", desc := "(J)J" } : Jvm.MethodName)) ∈ gt := gt_mem 945 (by decide +kernel) rfl
theorem tw_903 : (Jvm.Cond.code ({ cls := "HeaveSongs$Word", name := "mixedInto", desc := "(J)J" } : Jvm.MethodName) prog_12_method_4_code (3 : Nat) (Option.some Jvm.ClassFile.FieldType.long)) ∈ gt := gt_mem 946 (by decide +kernel) rfl
theorem tw_904 : (Jvm.Cond.constantLong "HeaveSongs$Word" (34 : Nat) (31 : Int64)) ∈ gt := gt_mem 947 (by decide +kernel) rfl
theorem tw_905 : (Jvm.Cond.methodLink "HeaveSongs" (307 : Nat) ({ cls := "HeaveSongs$Marks", name := "mixedInto", desc := "(J)J" } : Jvm.MethodName)) ∈ gt := gt_mem 948 (by decide +kernel) rfl
theorem tw_906 : (Jvm.Cond.instanceMethod ({ cls := "HeaveSongs$Marks", name := "mixedInto", desc := "(J)J" } : Jvm.MethodName)) ∈ gt := gt_mem 949 (by decide +kernel) rfl
theorem tw_907 : (Jvm.Cond.selects "HeaveSongs$Marks" ({ cls := "HeaveSongs$Marks", name := "mixedInto", desc := "(J)J" } : Jvm.MethodName) ({ cls := "HeaveSongs$Marks", name := "mixedInto", desc := "(J)J" } : Jvm.MethodName)) ∈ gt := gt_mem 950 (by decide +kernel) rfl
theorem tw_908 : (Jvm.Cond.code ({ cls := "HeaveSongs$Marks", name := "mixedInto", desc := "(J)J" } : Jvm.MethodName) prog_7_method_5_code (6 : Nat) (Option.some Jvm.ClassFile.FieldType.long)) ∈ gt := gt_mem 951 (by decide +kernel) rfl
theorem tw_909 : (Jvm.Cond.constantLong "HeaveSongs$Marks" (36 : Nat) (31 : Int64)) ∈ gt := gt_mem 952 (by decide +kernel) rfl
theorem tw_910 : (Jvm.Cond.classLink "HeaveSongsLaw" (10 : Nat) "HeaveSongsModel") ∈ gt := gt_mem 953 (by decide +kernel) rfl
theorem tw_911 : (Jvm.Cond.instantiable "HeaveSongsModel" (47 : Nat)) ∈ gt := gt_mem 954 (by decide +kernel) rfl
theorem tw_912 : (Jvm.Cond.methodLink "HeaveSongsLaw" (12 : Nat) ({ cls := "HeaveSongsModel", name := "<init>", desc := "()V" } : Jvm.MethodName)) ∈ gt := gt_mem 955 (by decide +kernel) rfl
theorem tw_913 : (Jvm.Cond.instanceMethod ({ cls := "HeaveSongsModel", name := "<init>", desc := "()V" } : Jvm.MethodName)) ∈ gt := gt_mem 956 (by decide +kernel) rfl
theorem tw_914 : (Jvm.Cond.code ({ cls := "HeaveSongsModel", name := "<init>", desc := "()V" } : Jvm.MethodName) prog_14_method_1_code (1 : Nat) (Option.none : Option Jvm.ClassFile.FieldType)) ∈ gt := gt_mem 957 (by decide +kernel) rfl
theorem tw_915 : (Jvm.Cond.methodLink "HeaveSongsModel" (1 : Nat) ({ cls := "java/lang/Object", name := "<init>", desc := "()V" } : Jvm.MethodName)) ∈ gt := gt_mem 958 (by decide +kernel) rfl
theorem tw_916 : (Jvm.Cond.fieldLink "HeaveSongsModel" (108 : Nat) "HeaveSongsModel" "songs" "I") ∈ gt := gt_mem 959 (by decide +kernel) rfl
theorem tw_917 : (Jvm.Cond.fieldLink "HeaveSongsModel" (7 : Nat) "HeaveSongsModel" "verseSize" "[I") ∈ gt := gt_mem 960 (by decide +kernel) rfl
theorem tw_918 : (Jvm.Cond.fieldLink "HeaveSongsModel" (13 : Nat) "HeaveSongsModel" "refrainSize" "[I") ∈ gt := gt_mem 961 (by decide +kernel) rfl
theorem tw_919 : (Jvm.Cond.fieldLink "HeaveSongsModel" (16 : Nat) "HeaveSongsModel" "verse" "[I") ∈ gt := gt_mem 962 (by decide +kernel) rfl
theorem tw_920 : (Jvm.Cond.fieldLink "HeaveSongsModel" (19 : Nat) "HeaveSongsModel" "refrain" "[I") ∈ gt := gt_mem 963 (by decide +kernel) rfl
theorem tw_921 : (Jvm.Cond.fieldLink "HeaveSongsModel" (104 : Nat) "HeaveSongsModel" "rowSize" "I") ∈ gt := gt_mem 964 (by decide +kernel) rfl
theorem tw_922 : (Jvm.Cond.fieldLink "HeaveSongsModel" (22 : Nat) "HeaveSongsModel" "row" "[I") ∈ gt := gt_mem 965 (by decide +kernel) rfl
theorem tw_923 : (Jvm.Cond.fieldLink "HeaveSongsModel" (121 : Nat) "HeaveSongsModel" "hands" "I") ∈ gt := gt_mem 966 (by decide +kernel) rfl
theorem tw_924 : (Jvm.Cond.fieldLink "HeaveSongsModel" (25 : Nat) "HeaveSongsModel" "strength" "[I") ∈ gt := gt_mem 967 (by decide +kernel) rfl
theorem tw_925 : (Jvm.Cond.fieldLink "HeaveSongsModel" (28 : Nat) "HeaveSongsModel" "tires" "[I") ∈ gt := gt_mem 968 (by decide +kernel) rfl
theorem tw_926 : (Jvm.Cond.fieldLink "HeaveSongsModel" (31 : Nat) "HeaveSongsModel" "rests" "[I") ∈ gt := gt_mem 969 (by decide +kernel) rfl
theorem tw_927 : (Jvm.Cond.fieldLink "HeaveSongsModel" (34 : Nat) "HeaveSongsModel" "breaths" "[I") ∈ gt := gt_mem 970 (by decide +kernel) rfl
theorem tw_928 : (Jvm.Cond.fieldLink "HeaveSongsModel" (37 : Nat) "HeaveSongsModel" "lates" "[I") ∈ gt := gt_mem 971 (by decide +kernel) rfl
theorem tw_929 : (Jvm.Cond.fieldLink "HeaveSongsModel" (40 : Nat) "HeaveSongsModel" "nows" "[I") ∈ gt := gt_mem 972 (by decide +kernel) rfl
theorem tw_930 : (Jvm.Cond.fieldLink "HeaveSongsModel" (128 : Nat) "HeaveSongsModel" "crew" "I") ∈ gt := gt_mem 973 (by decide +kernel) rfl
theorem tw_931 : (Jvm.Cond.fieldLink "HeaveSongsModel" (134 : Nat) "HeaveSongsModel" "floor" "I") ∈ gt := gt_mem 974 (by decide +kernel) rfl
theorem tw_932 : (Jvm.Cond.fieldLink "HeaveSongsModel" (155 : Nat) "HeaveSongsModel" "lastBeats" "I") ∈ gt := gt_mem 975 (by decide +kernel) rfl
theorem tw_933 : (Jvm.Cond.fieldLink "HeaveSongsModel" (43 : Nat) "HeaveSongsModel" "wonAt" "[I") ∈ gt := gt_mem 976 (by decide +kernel) rfl
theorem tw_934 : (Jvm.Cond.fieldLink "HeaveSongsModel" (46 : Nat) "HeaveSongsModel" "forceAt" "[I") ∈ gt := gt_mem 977 (by decide +kernel) rfl
theorem tw_935 : (Jvm.Cond.fieldLink "HeaveSongsModel" (49 : Nat) "HeaveSongsModel" "behind" "[I") ∈ gt := gt_mem 978 (by decide +kernel) rfl
theorem tw_936 : (Jvm.Cond.fieldLink "HeaveSongsModel" (148 : Nat) "HeaveSongsModel" "won" "I") ∈ gt := gt_mem 979 (by decide +kernel) rfl
theorem tw_937 : (Jvm.Cond.fieldLink "HeaveSongsModel" (145 : Nat) "HeaveSongsModel" "force" "I") ∈ gt := gt_mem 980 (by decide +kernel) rfl
theorem tw_938 : (Jvm.Cond.fieldLink "HeaveSongsModel" (174 : Nat) "HeaveSongsModel" "tasks" "I") ∈ gt := gt_mem 981 (by decide +kernel) rfl
theorem tw_939 : (Jvm.Cond.fieldLink "HeaveSongsModel" (52 : Nat) "HeaveSongsModel" "goals" "[I") ∈ gt := gt_mem 982 (by decide +kernel) rfl
theorem tw_940 : (Jvm.Cond.fieldLink "HeaveSongsModel" (55 : Nat) "HeaveSongsModel" "loads" "[I") ∈ gt := gt_mem 983 (by decide +kernel) rfl
theorem tw_941 : (Jvm.Cond.fieldLink "HeaveSongsModel" (58 : Nat) "HeaveSongsModel" "slips" "[I") ∈ gt := gt_mem 984 (by decide +kernel) rfl
theorem tw_942 : (Jvm.Cond.fieldLink "HeaveSongsModel" (177 : Nat) "HeaveSongsModel" "between" "I") ∈ gt := gt_mem 985 (by decide +kernel) rfl
theorem tw_943 : (Jvm.Cond.fieldLink "HeaveSongsModel" (61 : Nat) "HeaveSongsModel" "way" "[I") ∈ gt := gt_mem 986 (by decide +kernel) rfl
theorem tw_944 : (Jvm.Cond.fieldLink "HeaveSongsModel" (64 : Nat) "HeaveSongsModel" "bestWay" "[I") ∈ gt := gt_mem 987 (by decide +kernel) rfl
theorem tw_945 : (Jvm.Cond.fieldLink "HeaveSongsModel" (67 : Nat) "HeaveSongsModel" "beatsTo" "[I") ∈ gt := gt_mem 988 (by decide +kernel) rfl
theorem tw_946 : (Jvm.Cond.fieldLink "HeaveSongsModel" (201 : Nat) "HeaveSongsModel" "words" "I") ∈ gt := gt_mem 989 (by decide +kernel) rfl
theorem tw_947 : (Jvm.Cond.fieldLink "HeaveSongsModel" (70 : Nat) "HeaveSongsModel" "sounds" "[I") ∈ gt := gt_mem 990 (by decide +kernel) rfl
theorem tw_948 : (Jvm.Cond.fieldLink "HeaveSongsModel" (73 : Nat) "HeaveSongsModel" "strong" "[I") ∈ gt := gt_mem 991 (by decide +kernel) rfl
theorem tw_949 : (Jvm.Cond.fieldLink "HeaveSongsModel" (76 : Nat) "HeaveSongsModel" "linesFrom" "[J") ∈ gt := gt_mem 992 (by decide +kernel) rfl
theorem tw_950 : (Jvm.Cond.fieldLink "HeaveSongsModel" (80 : Nat) "HeaveSongsModel" "wrongFrom" "[I") ∈ gt := gt_mem 993 (by decide +kernel) rfl
theorem tw_951 : (Jvm.Cond.fieldLink "HeaveSongsModel" (227 : Nat) "HeaveSongsModel" "marks" "I") ∈ gt := gt_mem 994 (by decide +kernel) rfl
theorem tw_952 : (Jvm.Cond.fieldLink "HeaveSongsModel" (83 : Nat) "HeaveSongsModel" "markBeat" "[I") ∈ gt := gt_mem 995 (by decide +kernel) rfl
theorem tw_953 : (Jvm.Cond.fieldLink "HeaveSongsModel" (86 : Nat) "HeaveSongsModel" "markWon" "[I") ∈ gt := gt_mem 996 (by decide +kernel) rfl
theorem tw_954 : (Jvm.Cond.fieldLink "HeaveSongsModel" (89 : Nat) "HeaveSongsModel" "draftWon" "[I") ∈ gt := gt_mem 997 (by decide +kernel) rfl
theorem tw_955 : (Jvm.Cond.fieldLink "HeaveSongsModel" (234 : Nat) "HeaveSongsModel" "bestA" "I") ∈ gt := gt_mem 998 (by decide +kernel) rfl
theorem tw_956 : (Jvm.Cond.fieldLink "HeaveSongsModel" (243 : Nat) "HeaveSongsModel" "bestB" "I") ∈ gt := gt_mem 999 (by decide +kernel) rfl
theorem tw_957 : (Jvm.Cond.fieldLink "HeaveSongsModel" (237 : Nat) "HeaveSongsModel" "bestLateA" "I") ∈ gt := gt_mem 1000 (by decide +kernel) rfl
theorem tw_958 : (Jvm.Cond.fieldLink "HeaveSongsModel" (246 : Nat) "HeaveSongsModel" "bestLateB" "I") ∈ gt := gt_mem 1001 (by decide +kernel) rfl
theorem tw_959 : (Jvm.Cond.fieldLink "HeaveSongsModel" (92 : Nat) "HeaveSongsModel" "far" "[I") ∈ gt := gt_mem 1002 (by decide +kernel) rfl
theorem tw_960 : (Jvm.Cond.fieldLink "HeaveSongsModel" (95 : Nat) "HeaveSongsModel" "hung" "[I") ∈ gt := gt_mem 1003 (by decide +kernel) rfl
theorem tw_961 : (Jvm.Cond.fieldLink "HeaveSongsModel" (262 : Nat) "HeaveSongsModel" "treeSum" "I") ∈ gt := gt_mem 1004 (by decide +kernel) rfl
theorem tw_962 : (Jvm.Cond.fieldLink "HeaveSongsModel" (270 : Nat) "HeaveSongsModel" "hash" "J") ∈ gt := gt_mem 1005 (by decide +kernel) rfl
theorem tw_1058 : (Jvm.Cond.methodLink "HeaveSongsLaw" (17 : Nat) ({ cls := "HeaveSongsModel", name := "beat", desc := "(I)I" } : Jvm.MethodName)) ∈ gt := gt_mem 1101 (by decide +kernel) rfl
theorem tw_1059 : (Jvm.Cond.instanceMethod ({ cls := "HeaveSongsModel", name := "beat", desc := "(I)I" } : Jvm.MethodName)) ∈ gt := gt_mem 1102 (by decide +kernel) rfl
theorem tw_1060 : (Jvm.Cond.selects "HeaveSongsModel" ({ cls := "HeaveSongsModel", name := "beat", desc := "(I)I" } : Jvm.MethodName) ({ cls := "HeaveSongsModel", name := "beat", desc := "(I)I" } : Jvm.MethodName)) ∈ gt := gt_mem 1103 (by decide +kernel) rfl
theorem tw_1061 : (Jvm.Cond.code ({ cls := "HeaveSongsModel", name := "beat", desc := "(I)I" } : Jvm.MethodName) prog_14_method_5_code (2 : Nat) (Option.some Jvm.ClassFile.FieldType.int)) ∈ gt := gt_mem 1104 (by decide +kernel) rfl
theorem tw_1062 : (Jvm.Cond.constantLong "HeaveSongsModel" (98 : Nat) (3 : Int64)) ∈ gt := gt_mem 1105 (by decide +kernel) rfl
theorem tw_1063 : (Jvm.Cond.methodLink "HeaveSongsModel" (100 : Nat) ({ cls := "HeaveSongsModel", name := "in", desc := "(JJJ)Z" } : Jvm.MethodName)) ∈ gt := gt_mem 1106 (by decide +kernel) rfl
theorem tw_1064 : (Jvm.Cond.static ({ cls := "HeaveSongsModel", name := "in", desc := "(JJJ)Z" } : Jvm.MethodName)) ∈ gt := gt_mem 1107 (by decide +kernel) rfl
theorem tw_1065 : (Jvm.Cond.code ({ cls := "HeaveSongsModel", name := "in", desc := "(JJJ)Z" } : Jvm.MethodName) prog_14_method_3_code (6 : Nat) (Option.some Jvm.ClassFile.FieldType.boolean)) ∈ gt := gt_mem 1108 (by decide +kernel) rfl
theorem tw_1066 : (Jvm.Cond.methodLink "HeaveSongsLaw" (22 : Nat) ({ cls := "HeaveSongsModel", name := "rest", desc := "()I" } : Jvm.MethodName)) ∈ gt := gt_mem 1109 (by decide +kernel) rfl
theorem tw_1067 : (Jvm.Cond.instanceMethod ({ cls := "HeaveSongsModel", name := "rest", desc := "()I" } : Jvm.MethodName)) ∈ gt := gt_mem 1110 (by decide +kernel) rfl
theorem tw_1068 : (Jvm.Cond.selects "HeaveSongsModel" ({ cls := "HeaveSongsModel", name := "rest", desc := "()I" } : Jvm.MethodName) ({ cls := "HeaveSongsModel", name := "rest", desc := "()I" } : Jvm.MethodName)) ∈ gt := gt_mem 1111 (by decide +kernel) rfl
theorem tw_1069 : (Jvm.Cond.code ({ cls := "HeaveSongsModel", name := "rest", desc := "()I" } : Jvm.MethodName) prog_14_method_6_code (2 : Nat) (Option.some Jvm.ClassFile.FieldType.int)) ∈ gt := gt_mem 1112 (by decide +kernel) rfl
theorem tw_1070 : (Jvm.Cond.methodLink "HeaveSongsLaw" (26 : Nat) ({ cls := "HeaveSongsModel", name := "song", desc := "()I" } : Jvm.MethodName)) ∈ gt := gt_mem 1113 (by decide +kernel) rfl
theorem tw_1071 : (Jvm.Cond.instanceMethod ({ cls := "HeaveSongsModel", name := "song", desc := "()I" } : Jvm.MethodName)) ∈ gt := gt_mem 1114 (by decide +kernel) rfl
theorem tw_1072 : (Jvm.Cond.selects "HeaveSongsModel" ({ cls := "HeaveSongsModel", name := "song", desc := "()I" } : Jvm.MethodName) ({ cls := "HeaveSongsModel", name := "song", desc := "()I" } : Jvm.MethodName)) ∈ gt := gt_mem 1115 (by decide +kernel) rfl
theorem tw_1073 : (Jvm.Cond.code ({ cls := "HeaveSongsModel", name := "song", desc := "()I" } : Jvm.MethodName) prog_14_method_7_code (2 : Nat) (Option.some Jvm.ClassFile.FieldType.int)) ∈ gt := gt_mem 1116 (by decide +kernel) rfl
theorem tw_1074 : (Jvm.Cond.methodLink "HeaveSongsLaw" (30 : Nat) ({ cls := "HeaveSongsModel", name := "refrain", desc := "(I)I" } : Jvm.MethodName)) ∈ gt := gt_mem 1117 (by decide +kernel) rfl
theorem tw_1075 : (Jvm.Cond.instanceMethod ({ cls := "HeaveSongsModel", name := "refrain", desc := "(I)I" } : Jvm.MethodName)) ∈ gt := gt_mem 1118 (by decide +kernel) rfl
theorem tw_1076 : (Jvm.Cond.selects "HeaveSongsModel" ({ cls := "HeaveSongsModel", name := "refrain", desc := "(I)I" } : Jvm.MethodName) ({ cls := "HeaveSongsModel", name := "refrain", desc := "(I)I" } : Jvm.MethodName)) ∈ gt := gt_mem 1119 (by decide +kernel) rfl
theorem tw_1077 : (Jvm.Cond.code ({ cls := "HeaveSongsModel", name := "refrain", desc := "(I)I" } : Jvm.MethodName) prog_14_method_9_code (3 : Nat) (Option.some Jvm.ClassFile.FieldType.int)) ∈ gt := gt_mem 1120 (by decide +kernel) rfl
theorem tw_1078 : (Jvm.Cond.methodLink "HeaveSongsModel" (111 : Nat) ({ cls := "HeaveSongsModel", name := "noSong", desc := "(I)Z" } : Jvm.MethodName)) ∈ gt := gt_mem 1121 (by decide +kernel) rfl
theorem tw_1080 : (Jvm.Cond.instanceMethod ({ cls := "HeaveSongsModel", name := "noSong", desc := "(I)Z" } : Jvm.MethodName)) ∈ gt := gt_mem 1123 (by decide +kernel) rfl
theorem tw_1081 : (Jvm.Cond.code ({ cls := "HeaveSongsModel", name := "noSong", desc := "(I)Z" } : Jvm.MethodName) prog_14_method_8_code (2 : Nat) (Option.some Jvm.ClassFile.FieldType.boolean)) ∈ gt := gt_mem 1124 (by decide +kernel) rfl
theorem tw_1082 : (Jvm.Cond.methodLink "HeaveSongsLaw" (35 : Nat) ({ cls := "HeaveSongsModel", name := "beatAt", desc := "(II)I" } : Jvm.MethodName)) ∈ gt := gt_mem 1125 (by decide +kernel) rfl
theorem tw_1083 : (Jvm.Cond.instanceMethod ({ cls := "HeaveSongsModel", name := "beatAt", desc := "(II)I" } : Jvm.MethodName)) ∈ gt := gt_mem 1126 (by decide +kernel) rfl
theorem tw_1084 : (Jvm.Cond.selects "HeaveSongsModel" ({ cls := "HeaveSongsModel", name := "beatAt", desc := "(II)I" } : Jvm.MethodName) ({ cls := "HeaveSongsModel", name := "beatAt", desc := "(II)I" } : Jvm.MethodName)) ∈ gt := gt_mem 1127 (by decide +kernel) rfl
theorem tw_1085 : (Jvm.Cond.code ({ cls := "HeaveSongsModel", name := "beatAt", desc := "(II)I" } : Jvm.MethodName) prog_14_method_11_code (3 : Nat) (Option.some Jvm.ClassFile.FieldType.int)) ∈ gt := gt_mem 1128 (by decide +kernel) rfl
theorem tw_1086 : (Jvm.Cond.constantLong "HeaveSongsModel" (115 : Nat) (1000 : Int64)) ∈ gt := gt_mem 1129 (by decide +kernel) rfl
theorem tw_1087 : (Jvm.Cond.methodLink "HeaveSongsModel" (117 : Nat) ({ cls := "HeaveSongsModel", name := "beatOf", desc := "(II)I" } : Jvm.MethodName)) ∈ gt := gt_mem 1130 (by decide +kernel) rfl
theorem tw_1089 : (Jvm.Cond.instanceMethod ({ cls := "HeaveSongsModel", name := "beatOf", desc := "(II)I" } : Jvm.MethodName)) ∈ gt := gt_mem 1132 (by decide +kernel) rfl
theorem tw_1090 : (Jvm.Cond.code ({ cls := "HeaveSongsModel", name := "beatOf", desc := "(II)I" } : Jvm.MethodName) prog_14_method_10_code (4 : Nat) (Option.some Jvm.ClassFile.FieldType.int)) ∈ gt := gt_mem 1133 (by decide +kernel) rfl
theorem tw_1091 : (Jvm.Cond.methodLink "HeaveSongsLaw" (40 : Nat) ({ cls := "HeaveSongsModel", name := "hand", desc := "(IIII)I" } : Jvm.MethodName)) ∈ gt := gt_mem 1134 (by decide +kernel) rfl
theorem tw_1092 : (Jvm.Cond.instanceMethod ({ cls := "HeaveSongsModel", name := "hand", desc := "(IIII)I" } : Jvm.MethodName)) ∈ gt := gt_mem 1135 (by decide +kernel) rfl
theorem tw_1093 : (Jvm.Cond.selects "HeaveSongsModel" ({ cls := "HeaveSongsModel", name := "hand", desc := "(IIII)I" } : Jvm.MethodName) ({ cls := "HeaveSongsModel", name := "hand", desc := "(IIII)I" } : Jvm.MethodName)) ∈ gt := gt_mem 1136 (by decide +kernel) rfl
theorem tw_1094 : (Jvm.Cond.code ({ cls := "HeaveSongsModel", name := "hand", desc := "(IIII)I" } : Jvm.MethodName) prog_14_method_13_code (5 : Nat) (Option.some Jvm.ClassFile.FieldType.int)) ∈ gt := gt_mem 1137 (by decide +kernel) rfl
theorem tw_1095 : (Jvm.Cond.constantLong "HeaveSongsModel" (124 : Nat) (100 : Int64)) ∈ gt := gt_mem 1138 (by decide +kernel) rfl
theorem tw_1096 : (Jvm.Cond.constantLong "HeaveSongsModel" (126 : Nat) (30 : Int64)) ∈ gt := gt_mem 1139 (by decide +kernel) rfl
theorem tw_1097 : (Jvm.Cond.methodLink "HeaveSongsLaw" (44 : Nat) ({ cls := "HeaveSongsModel", name := "late", desc := "(II)I" } : Jvm.MethodName)) ∈ gt := gt_mem 1140 (by decide +kernel) rfl
theorem tw_1098 : (Jvm.Cond.instanceMethod ({ cls := "HeaveSongsModel", name := "late", desc := "(II)I" } : Jvm.MethodName)) ∈ gt := gt_mem 1141 (by decide +kernel) rfl
theorem tw_1099 : (Jvm.Cond.selects "HeaveSongsModel" ({ cls := "HeaveSongsModel", name := "late", desc := "(II)I" } : Jvm.MethodName) ({ cls := "HeaveSongsModel", name := "late", desc := "(II)I" } : Jvm.MethodName)) ∈ gt := gt_mem 1142 (by decide +kernel) rfl
theorem tw_1100 : (Jvm.Cond.code ({ cls := "HeaveSongsModel", name := "late", desc := "(II)I" } : Jvm.MethodName) prog_14_method_14_code (4 : Nat) (Option.some Jvm.ClassFile.FieldType.int)) ∈ gt := gt_mem 1143 (by decide +kernel) rfl
theorem tw_1101 : (Jvm.Cond.methodLink "HeaveSongsModel" (131 : Nat) ({ cls := "HeaveSongsModel", name := "noHand", desc := "(I)Z" } : Jvm.MethodName)) ∈ gt := gt_mem 1144 (by decide +kernel) rfl
theorem tw_1103 : (Jvm.Cond.instanceMethod ({ cls := "HeaveSongsModel", name := "noHand", desc := "(I)Z" } : Jvm.MethodName)) ∈ gt := gt_mem 1146 (by decide +kernel) rfl
theorem tw_1104 : (Jvm.Cond.code ({ cls := "HeaveSongsModel", name := "noHand", desc := "(I)Z" } : Jvm.MethodName) prog_14_method_12_code (2 : Nat) (Option.some Jvm.ClassFile.FieldType.boolean)) ∈ gt := gt_mem 1147 (by decide +kernel) rfl
theorem tw_1105 : (Jvm.Cond.methodLink "HeaveSongsLaw" (48 : Nat) ({ cls := "HeaveSongsModel", name := "crew", desc := "(I)I" } : Jvm.MethodName)) ∈ gt := gt_mem 1148 (by decide +kernel) rfl
theorem tw_1106 : (Jvm.Cond.instanceMethod ({ cls := "HeaveSongsModel", name := "crew", desc := "(I)I" } : Jvm.MethodName)) ∈ gt := gt_mem 1149 (by decide +kernel) rfl
theorem tw_1107 : (Jvm.Cond.selects "HeaveSongsModel" ({ cls := "HeaveSongsModel", name := "crew", desc := "(I)I" } : Jvm.MethodName) ({ cls := "HeaveSongsModel", name := "crew", desc := "(I)I" } : Jvm.MethodName)) ∈ gt := gt_mem 1150 (by decide +kernel) rfl
theorem tw_1108 : (Jvm.Cond.code ({ cls := "HeaveSongsModel", name := "crew", desc := "(I)I" } : Jvm.MethodName) prog_14_method_15_code (3 : Nat) (Option.some Jvm.ClassFile.FieldType.int)) ∈ gt := gt_mem 1151 (by decide +kernel) rfl
theorem tw_1109 : (Jvm.Cond.methodLink "HeaveSongsLaw" (52 : Nat) ({ cls := "HeaveSongsModel", name := "floor", desc := "(I)I" } : Jvm.MethodName)) ∈ gt := gt_mem 1152 (by decide +kernel) rfl
theorem tw_1110 : (Jvm.Cond.instanceMethod ({ cls := "HeaveSongsModel", name := "floor", desc := "(I)I" } : Jvm.MethodName)) ∈ gt := gt_mem 1153 (by decide +kernel) rfl
theorem tw_1111 : (Jvm.Cond.selects "HeaveSongsModel" ({ cls := "HeaveSongsModel", name := "floor", desc := "(I)I" } : Jvm.MethodName) ({ cls := "HeaveSongsModel", name := "floor", desc := "(I)I" } : Jvm.MethodName)) ∈ gt := gt_mem 1154 (by decide +kernel) rfl
theorem tw_1112 : (Jvm.Cond.code ({ cls := "HeaveSongsModel", name := "floor", desc := "(I)I" } : Jvm.MethodName) prog_14_method_16_code (3 : Nat) (Option.some Jvm.ClassFile.FieldType.int)) ∈ gt := gt_mem 1155 (by decide +kernel) rfl
theorem tw_1113 : (Jvm.Cond.methodLink "HeaveSongsLaw" (56 : Nat) ({ cls := "HeaveSongsModel", name := "now", desc := "(I)I" } : Jvm.MethodName)) ∈ gt := gt_mem 1156 (by decide +kernel) rfl
theorem tw_1114 : (Jvm.Cond.instanceMethod ({ cls := "HeaveSongsModel", name := "now", desc := "(I)I" } : Jvm.MethodName)) ∈ gt := gt_mem 1157 (by decide +kernel) rfl
theorem tw_1115 : (Jvm.Cond.selects "HeaveSongsModel" ({ cls := "HeaveSongsModel", name := "now", desc := "(I)I" } : Jvm.MethodName) ({ cls := "HeaveSongsModel", name := "now", desc := "(I)I" } : Jvm.MethodName)) ∈ gt := gt_mem 1158 (by decide +kernel) rfl
theorem tw_1116 : (Jvm.Cond.code ({ cls := "HeaveSongsModel", name := "now", desc := "(I)I" } : Jvm.MethodName) prog_14_method_17_code (2 : Nat) (Option.some Jvm.ClassFile.FieldType.int)) ∈ gt := gt_mem 1159 (by decide +kernel) rfl
theorem tw_1117 : (Jvm.Cond.methodLink "HeaveSongsLaw" (60 : Nat) ({ cls := "HeaveSongsModel", name := "pause", desc := "(I)I" } : Jvm.MethodName)) ∈ gt := gt_mem 1160 (by decide +kernel) rfl
theorem tw_1118 : (Jvm.Cond.instanceMethod ({ cls := "HeaveSongsModel", name := "pause", desc := "(I)I" } : Jvm.MethodName)) ∈ gt := gt_mem 1161 (by decide +kernel) rfl
theorem tw_1119 : (Jvm.Cond.selects "HeaveSongsModel" ({ cls := "HeaveSongsModel", name := "pause", desc := "(I)I" } : Jvm.MethodName) ({ cls := "HeaveSongsModel", name := "pause", desc := "(I)I" } : Jvm.MethodName)) ∈ gt := gt_mem 1162 (by decide +kernel) rfl
theorem tw_1120 : (Jvm.Cond.code ({ cls := "HeaveSongsModel", name := "pause", desc := "(I)I" } : Jvm.MethodName) prog_14_method_19_code (4 : Nat) (Option.some Jvm.ClassFile.FieldType.int)) ∈ gt := gt_mem 1163 (by decide +kernel) rfl
theorem tw_1121 : (Jvm.Cond.methodLink "HeaveSongsModel" (137 : Nat) ({ cls := "HeaveSongsModel", name := "restAll", desc := "(II)V" } : Jvm.MethodName)) ∈ gt := gt_mem 1164 (by decide +kernel) rfl
theorem tw_1123 : (Jvm.Cond.instanceMethod ({ cls := "HeaveSongsModel", name := "restAll", desc := "(II)V" } : Jvm.MethodName)) ∈ gt := gt_mem 1166 (by decide +kernel) rfl
theorem tw_1124 : (Jvm.Cond.code ({ cls := "HeaveSongsModel", name := "restAll", desc := "(II)V" } : Jvm.MethodName) prog_14_method_18_code (5 : Nat) (Option.none : Option Jvm.ClassFile.FieldType)) ∈ gt := gt_mem 1167 (by decide +kernel) rfl
theorem tw_1125 : (Jvm.Cond.methodLink "HeaveSongsModel" (141 : Nat) ({ cls := "HeaveSongsModel", name := "bit", desc := "(Z)I" } : Jvm.MethodName)) ∈ gt := gt_mem 1168 (by decide +kernel) rfl
theorem tw_1126 : (Jvm.Cond.static ({ cls := "HeaveSongsModel", name := "bit", desc := "(Z)I" } : Jvm.MethodName)) ∈ gt := gt_mem 1169 (by decide +kernel) rfl
theorem tw_1127 : (Jvm.Cond.code ({ cls := "HeaveSongsModel", name := "bit", desc := "(Z)I" } : Jvm.MethodName) prog_14_method_4_code (1 : Nat) (Option.some Jvm.ClassFile.FieldType.int)) ∈ gt := gt_mem 1170 (by decide +kernel) rfl
theorem tw_1128 : (Jvm.Cond.methodLink "HeaveSongsLaw" (64 : Nat) ({ cls := "HeaveSongsModel", name := "haul", desc := "(IIII)I" } : Jvm.MethodName)) ∈ gt := gt_mem 1171 (by decide +kernel) rfl
theorem tw_1129 : (Jvm.Cond.instanceMethod ({ cls := "HeaveSongsModel", name := "haul", desc := "(IIII)I" } : Jvm.MethodName)) ∈ gt := gt_mem 1172 (by decide +kernel) rfl
theorem tw_1130 : (Jvm.Cond.selects "HeaveSongsModel" ({ cls := "HeaveSongsModel", name := "haul", desc := "(IIII)I" } : Jvm.MethodName) ({ cls := "HeaveSongsModel", name := "haul", desc := "(IIII)I" } : Jvm.MethodName)) ∈ gt := gt_mem 1173 (by decide +kernel) rfl
theorem tw_1131 : (Jvm.Cond.code ({ cls := "HeaveSongsModel", name := "haul", desc := "(IIII)I" } : Jvm.MethodName) prog_14_method_24_code (6 : Nat) (Option.some Jvm.ClassFile.FieldType.int)) ∈ gt := gt_mem 1174 (by decide +kernel) rfl
theorem tw_1132 : (Jvm.Cond.methodLink "HeaveSongsModel" (166 : Nat) ({ cls := "HeaveSongsModel", name := "isTask", desc := "(III)Z" } : Jvm.MethodName)) ∈ gt := gt_mem 1175 (by decide +kernel) rfl
theorem tw_1133 : (Jvm.Cond.static ({ cls := "HeaveSongsModel", name := "isTask", desc := "(III)Z" } : Jvm.MethodName)) ∈ gt := gt_mem 1176 (by decide +kernel) rfl
theorem tw_1134 : (Jvm.Cond.code ({ cls := "HeaveSongsModel", name := "isTask", desc := "(III)Z" } : Jvm.MethodName) prog_14_method_23_code (3 : Nat) (Option.some Jvm.ClassFile.FieldType.boolean)) ∈ gt := gt_mem 1177 (by decide +kernel) rfl
theorem tw_1135 : (Jvm.Cond.constantLong "HeaveSongsModel" (162 : Nat) (3000 : Int64)) ∈ gt := gt_mem 1178 (by decide +kernel) rfl
theorem tw_1136 : (Jvm.Cond.constantLong "HeaveSongsModel" (164 : Nat) (50 : Int64)) ∈ gt := gt_mem 1179 (by decide +kernel) rfl
theorem tw_1137 : (Jvm.Cond.methodLink "HeaveSongsModel" (170 : Nat) ({ cls := "HeaveSongsModel", name := "work", desc := "(IIIIIIZ)I" } : Jvm.MethodName)) ∈ gt := gt_mem 1180 (by decide +kernel) rfl
theorem tw_1139 : (Jvm.Cond.instanceMethod ({ cls := "HeaveSongsModel", name := "work", desc := "(IIIIIIZ)I" } : Jvm.MethodName)) ∈ gt := gt_mem 1182 (by decide +kernel) rfl
theorem tw_1140 : (Jvm.Cond.code ({ cls := "HeaveSongsModel", name := "work", desc := "(IIIIIIZ)I" } : Jvm.MethodName) prog_14_method_22_code (9 : Nat) (Option.some Jvm.ClassFile.FieldType.int)) ∈ gt := gt_mem 1183 (by decide +kernel) rfl
theorem tw_1141 : (Jvm.Cond.methodLink "HeaveSongsModel" (151 : Nat) ({ cls := "HeaveSongsModel", name := "step", desc := "(IIIIII)V" } : Jvm.MethodName)) ∈ gt := gt_mem 1184 (by decide +kernel) rfl
theorem tw_1143 : (Jvm.Cond.instanceMethod ({ cls := "HeaveSongsModel", name := "step", desc := "(IIIIII)V" } : Jvm.MethodName)) ∈ gt := gt_mem 1186 (by decide +kernel) rfl
theorem tw_1144 : (Jvm.Cond.code ({ cls := "HeaveSongsModel", name := "step", desc := "(IIIIII)V" } : Jvm.MethodName) prog_14_method_20_code (11 : Nat) (Option.none : Option Jvm.ClassFile.FieldType)) ∈ gt := gt_mem 1187 (by decide +kernel) rfl
theorem tw_1145 : (Jvm.Cond.methodLink "HeaveSongsModel" (158 : Nat) ({ cls := "HeaveSongsModel", name := "isAbove", desc := "(II)Z" } : Jvm.MethodName)) ∈ gt := gt_mem 1188 (by decide +kernel) rfl
theorem tw_1147 : (Jvm.Cond.instanceMethod ({ cls := "HeaveSongsModel", name := "isAbove", desc := "(II)Z" } : Jvm.MethodName)) ∈ gt := gt_mem 1190 (by decide +kernel) rfl
theorem tw_1148 : (Jvm.Cond.code ({ cls := "HeaveSongsModel", name := "isAbove", desc := "(II)Z" } : Jvm.MethodName) prog_14_method_21_code (5 : Nat) (Option.some Jvm.ClassFile.FieldType.boolean)) ∈ gt := gt_mem 1191 (by decide +kernel) rfl
theorem tw_1149 : (Jvm.Cond.methodLink "HeaveSongsLaw" (68 : Nat) ({ cls := "HeaveSongsModel", name := "won", desc := "(I)I" } : Jvm.MethodName)) ∈ gt := gt_mem 1192 (by decide +kernel) rfl
theorem tw_1150 : (Jvm.Cond.instanceMethod ({ cls := "HeaveSongsModel", name := "won", desc := "(I)I" } : Jvm.MethodName)) ∈ gt := gt_mem 1193 (by decide +kernel) rfl
theorem tw_1151 : (Jvm.Cond.selects "HeaveSongsModel" ({ cls := "HeaveSongsModel", name := "won", desc := "(I)I" } : Jvm.MethodName) ({ cls := "HeaveSongsModel", name := "won", desc := "(I)I" } : Jvm.MethodName)) ∈ gt := gt_mem 1194 (by decide +kernel) rfl
theorem tw_1152 : (Jvm.Cond.code ({ cls := "HeaveSongsModel", name := "won", desc := "(I)I" } : Jvm.MethodName) prog_14_method_25_code (2 : Nat) (Option.some Jvm.ClassFile.FieldType.int)) ∈ gt := gt_mem 1195 (by decide +kernel) rfl
theorem tw_1153 : (Jvm.Cond.methodLink "HeaveSongsLaw" (72 : Nat) ({ cls := "HeaveSongsModel", name := "force", desc := "(I)I" } : Jvm.MethodName)) ∈ gt := gt_mem 1196 (by decide +kernel) rfl
theorem tw_1154 : (Jvm.Cond.instanceMethod ({ cls := "HeaveSongsModel", name := "force", desc := "(I)I" } : Jvm.MethodName)) ∈ gt := gt_mem 1197 (by decide +kernel) rfl
theorem tw_1155 : (Jvm.Cond.selects "HeaveSongsModel" ({ cls := "HeaveSongsModel", name := "force", desc := "(I)I" } : Jvm.MethodName) ({ cls := "HeaveSongsModel", name := "force", desc := "(I)I" } : Jvm.MethodName)) ∈ gt := gt_mem 1198 (by decide +kernel) rfl
theorem tw_1156 : (Jvm.Cond.code ({ cls := "HeaveSongsModel", name := "force", desc := "(I)I" } : Jvm.MethodName) prog_14_method_26_code (2 : Nat) (Option.some Jvm.ClassFile.FieldType.int)) ∈ gt := gt_mem 1199 (by decide +kernel) rfl
theorem tw_1157 : (Jvm.Cond.methodLink "HeaveSongsLaw" (77 : Nat) ({ cls := "HeaveSongsModel", name := "task", desc := "(III)I" } : Jvm.MethodName)) ∈ gt := gt_mem 1200 (by decide +kernel) rfl
theorem tw_1158 : (Jvm.Cond.instanceMethod ({ cls := "HeaveSongsModel", name := "task", desc := "(III)I" } : Jvm.MethodName)) ∈ gt := gt_mem 1201 (by decide +kernel) rfl
theorem tw_1159 : (Jvm.Cond.selects "HeaveSongsModel" ({ cls := "HeaveSongsModel", name := "task", desc := "(III)I" } : Jvm.MethodName) ({ cls := "HeaveSongsModel", name := "task", desc := "(III)I" } : Jvm.MethodName)) ∈ gt := gt_mem 1202 (by decide +kernel) rfl
theorem tw_1160 : (Jvm.Cond.code ({ cls := "HeaveSongsModel", name := "task", desc := "(III)I" } : Jvm.MethodName) prog_14_method_27_code (4 : Nat) (Option.some Jvm.ClassFile.FieldType.int)) ∈ gt := gt_mem 1203 (by decide +kernel) rfl
theorem tw_1161 : (Jvm.Cond.methodLink "HeaveSongsLaw" (81 : Nat) ({ cls := "HeaveSongsModel", name := "between", desc := "(I)I" } : Jvm.MethodName)) ∈ gt := gt_mem 1204 (by decide +kernel) rfl
theorem tw_1162 : (Jvm.Cond.instanceMethod ({ cls := "HeaveSongsModel", name := "between", desc := "(I)I" } : Jvm.MethodName)) ∈ gt := gt_mem 1205 (by decide +kernel) rfl
theorem tw_1163 : (Jvm.Cond.selects "HeaveSongsModel" ({ cls := "HeaveSongsModel", name := "between", desc := "(I)I" } : Jvm.MethodName) ({ cls := "HeaveSongsModel", name := "between", desc := "(I)I" } : Jvm.MethodName)) ∈ gt := gt_mem 1206 (by decide +kernel) rfl
theorem tw_1164 : (Jvm.Cond.code ({ cls := "HeaveSongsModel", name := "between", desc := "(I)I" } : Jvm.MethodName) prog_14_method_28_code (3 : Nat) (Option.some Jvm.ClassFile.FieldType.int)) ∈ gt := gt_mem 1207 (by decide +kernel) rfl
theorem tw_1165 : (Jvm.Cond.methodLink "HeaveSongsLaw" (85 : Nat) ({ cls := "HeaveSongsModel", name := "plan", desc := "()I" } : Jvm.MethodName)) ∈ gt := gt_mem 1208 (by decide +kernel) rfl
theorem tw_1166 : (Jvm.Cond.instanceMethod ({ cls := "HeaveSongsModel", name := "plan", desc := "()I" } : Jvm.MethodName)) ∈ gt := gt_mem 1209 (by decide +kernel) rfl
theorem tw_1167 : (Jvm.Cond.selects "HeaveSongsModel" ({ cls := "HeaveSongsModel", name := "plan", desc := "()I" } : Jvm.MethodName) ({ cls := "HeaveSongsModel", name := "plan", desc := "()I" } : Jvm.MethodName)) ∈ gt := gt_mem 1210 (by decide +kernel) rfl
theorem tw_1168 : (Jvm.Cond.code ({ cls := "HeaveSongsModel", name := "plan", desc := "()I" } : Jvm.MethodName) prog_14_method_32_code (1 : Nat) (Option.some Jvm.ClassFile.FieldType.int)) ∈ gt := gt_mem 1211 (by decide +kernel) rfl
theorem tw_1169 : (Jvm.Cond.methodLink "HeaveSongsModel" (186 : Nat) ({ cls := "HeaveSongsModel", name := "findPlan", desc := "()I" } : Jvm.MethodName)) ∈ gt := gt_mem 1212 (by decide +kernel) rfl
theorem tw_1171 : (Jvm.Cond.instanceMethod ({ cls := "HeaveSongsModel", name := "findPlan", desc := "()I" } : Jvm.MethodName)) ∈ gt := gt_mem 1214 (by decide +kernel) rfl
theorem tw_1172 : (Jvm.Cond.code ({ cls := "HeaveSongsModel", name := "findPlan", desc := "()I" } : Jvm.MethodName) prog_14_method_31_code (4 : Nat) (Option.some Jvm.ClassFile.FieldType.int)) ∈ gt := gt_mem 1215 (by decide +kernel) rfl
theorem tw_1173 : (Jvm.Cond.methodLink "HeaveSongsModel" (183 : Nat) ({ cls := "HeaveSongsModel", name := "go", desc := "(II)Z" } : Jvm.MethodName)) ∈ gt := gt_mem 1216 (by decide +kernel) rfl
theorem tw_1175 : (Jvm.Cond.instanceMethod ({ cls := "HeaveSongsModel", name := "go", desc := "(II)Z" } : Jvm.MethodName)) ∈ gt := gt_mem 1218 (by decide +kernel) rfl
theorem tw_1176 : (Jvm.Cond.code ({ cls := "HeaveSongsModel", name := "go", desc := "(II)Z" } : Jvm.MethodName) prog_14_method_30_code (4 : Nat) (Option.some Jvm.ClassFile.FieldType.boolean)) ∈ gt := gt_mem 1219 (by decide +kernel) rfl
theorem tw_1177 : (Jvm.Cond.methodLink "HeaveSongsModel" (180 : Nat) ({ cls := "HeaveSongsModel", name := "carry", desc := "(II)V" } : Jvm.MethodName)) ∈ gt := gt_mem 1220 (by decide +kernel) rfl
theorem tw_1179 : (Jvm.Cond.instanceMethod ({ cls := "HeaveSongsModel", name := "carry", desc := "(II)V" } : Jvm.MethodName)) ∈ gt := gt_mem 1222 (by decide +kernel) rfl
theorem tw_1180 : (Jvm.Cond.code ({ cls := "HeaveSongsModel", name := "carry", desc := "(II)V" } : Jvm.MethodName) prog_14_method_29_code (4 : Nat) (Option.none : Option Jvm.ClassFile.FieldType)) ∈ gt := gt_mem 1223 (by decide +kernel) rfl
theorem tw_1181 : (Jvm.Cond.methodLink "HeaveSongsLaw" (89 : Nat) ({ cls := "HeaveSongsModel", name := "planAt", desc := "(I)I" } : Jvm.MethodName)) ∈ gt := gt_mem 1224 (by decide +kernel) rfl
theorem tw_1182 : (Jvm.Cond.instanceMethod ({ cls := "HeaveSongsModel", name := "planAt", desc := "(I)I" } : Jvm.MethodName)) ∈ gt := gt_mem 1225 (by decide +kernel) rfl
theorem tw_1183 : (Jvm.Cond.selects "HeaveSongsModel" ({ cls := "HeaveSongsModel", name := "planAt", desc := "(I)I" } : Jvm.MethodName) ({ cls := "HeaveSongsModel", name := "planAt", desc := "(I)I" } : Jvm.MethodName)) ∈ gt := gt_mem 1226 (by decide +kernel) rfl
theorem tw_1184 : (Jvm.Cond.code ({ cls := "HeaveSongsModel", name := "planAt", desc := "(I)I" } : Jvm.MethodName) prog_14_method_33_code (2 : Nat) (Option.some Jvm.ClassFile.FieldType.int)) ∈ gt := gt_mem 1227 (by decide +kernel) rfl
theorem tw_1185 : (Jvm.Cond.methodLink "HeaveSongsLaw" (93 : Nat) ({ cls := "HeaveSongsModel", name := "best", desc := "(IIII)I" } : Jvm.MethodName)) ∈ gt := gt_mem 1228 (by decide +kernel) rfl
theorem tw_1186 : (Jvm.Cond.instanceMethod ({ cls := "HeaveSongsModel", name := "best", desc := "(IIII)I" } : Jvm.MethodName)) ∈ gt := gt_mem 1229 (by decide +kernel) rfl
theorem tw_1187 : (Jvm.Cond.selects "HeaveSongsModel" ({ cls := "HeaveSongsModel", name := "best", desc := "(IIII)I" } : Jvm.MethodName) ({ cls := "HeaveSongsModel", name := "best", desc := "(IIII)I" } : Jvm.MethodName)) ∈ gt := gt_mem 1230 (by decide +kernel) rfl
theorem tw_1188 : (Jvm.Cond.code ({ cls := "HeaveSongsModel", name := "best", desc := "(IIII)I" } : Jvm.MethodName) prog_14_method_36_code (11 : Nat) (Option.some Jvm.ClassFile.FieldType.int)) ∈ gt := gt_mem 1231 (by decide +kernel) rfl
theorem tw_1189 : (Jvm.Cond.constantLong "HeaveSongsModel" (190 : Nat) (2 : Int64)) ∈ gt := gt_mem 1232 (by decide +kernel) rfl
theorem tw_1190 : (Jvm.Cond.methodLink "HeaveSongsModel" (192 : Nat) ({ cls := "HeaveSongsModel", name := "ones", desc := "(I)I" } : Jvm.MethodName)) ∈ gt := gt_mem 1233 (by decide +kernel) rfl
theorem tw_1191 : (Jvm.Cond.static ({ cls := "HeaveSongsModel", name := "ones", desc := "(I)I" } : Jvm.MethodName)) ∈ gt := gt_mem 1234 (by decide +kernel) rfl
theorem tw_1192 : (Jvm.Cond.code ({ cls := "HeaveSongsModel", name := "ones", desc := "(I)I" } : Jvm.MethodName) prog_14_method_34_code (3 : Nat) (Option.some Jvm.ClassFile.FieldType.int)) ∈ gt := gt_mem 1235 (by decide +kernel) rfl
theorem tw_1193 : (Jvm.Cond.methodLink "HeaveSongsModel" (196 : Nat) ({ cls := "HeaveSongsModel", name := "leastNow", desc := "(I)I" } : Jvm.MethodName)) ∈ gt := gt_mem 1236 (by decide +kernel) rfl
theorem tw_1195 : (Jvm.Cond.instanceMethod ({ cls := "HeaveSongsModel", name := "leastNow", desc := "(I)I" } : Jvm.MethodName)) ∈ gt := gt_mem 1238 (by decide +kernel) rfl
theorem tw_1196 : (Jvm.Cond.code ({ cls := "HeaveSongsModel", name := "leastNow", desc := "(I)I" } : Jvm.MethodName) prog_14_method_35_code (5 : Nat) (Option.some Jvm.ClassFile.FieldType.int)) ∈ gt := gt_mem 1239 (by decide +kernel) rfl
theorem tw_1197 : (Jvm.Cond.methodLink "HeaveSongsLaw" (97 : Nat) ({ cls := "HeaveSongsModel", name := "word", desc := "(II)I" } : Jvm.MethodName)) ∈ gt := gt_mem 1240 (by decide +kernel) rfl
theorem tw_1198 : (Jvm.Cond.instanceMethod ({ cls := "HeaveSongsModel", name := "word", desc := "(II)I" } : Jvm.MethodName)) ∈ gt := gt_mem 1241 (by decide +kernel) rfl
theorem tw_1199 : (Jvm.Cond.selects "HeaveSongsModel" ({ cls := "HeaveSongsModel", name := "word", desc := "(II)I" } : Jvm.MethodName) ({ cls := "HeaveSongsModel", name := "word", desc := "(II)I" } : Jvm.MethodName)) ∈ gt := gt_mem 1242 (by decide +kernel) rfl
theorem tw_1200 : (Jvm.Cond.code ({ cls := "HeaveSongsModel", name := "word", desc := "(II)I" } : Jvm.MethodName) prog_14_method_37_code (3 : Nat) (Option.some Jvm.ClassFile.FieldType.int)) ∈ gt := gt_mem 1243 (by decide +kernel) rfl
theorem tw_1201 : (Jvm.Cond.constantLong "HeaveSongsModel" (199 : Nat) (5 : Int64)) ∈ gt := gt_mem 1244 (by decide +kernel) rfl
theorem tw_1202 : (Jvm.Cond.methodLink "HeaveSongsLaw" (102 : Nat) ({ cls := "HeaveSongsModel", name := "lines", desc := "(I)J" } : Jvm.MethodName)) ∈ gt := gt_mem 1245 (by decide +kernel) rfl
theorem tw_1203 : (Jvm.Cond.instanceMethod ({ cls := "HeaveSongsModel", name := "lines", desc := "(I)J" } : Jvm.MethodName)) ∈ gt := gt_mem 1246 (by decide +kernel) rfl
theorem tw_1204 : (Jvm.Cond.selects "HeaveSongsModel" ({ cls := "HeaveSongsModel", name := "lines", desc := "(I)J" } : Jvm.MethodName) ({ cls := "HeaveSongsModel", name := "lines", desc := "(I)J" } : Jvm.MethodName)) ∈ gt := gt_mem 1247 (by decide +kernel) rfl
theorem tw_1205 : (Jvm.Cond.code ({ cls := "HeaveSongsModel", name := "lines", desc := "(I)J" } : Jvm.MethodName) prog_14_method_42_code (2 : Nat) (Option.some Jvm.ClassFile.FieldType.long)) ∈ gt := gt_mem 1248 (by decide +kernel) rfl
theorem tw_1206 : (Jvm.Cond.constantLong "HeaveSongsModel" (217 : Nat) (-2 : Int64)) ∈ gt := gt_mem 1249 (by decide +kernel) rfl
theorem tw_1207 : (Jvm.Cond.methodLink "HeaveSongsModel" (219 : Nat) ({ cls := "HeaveSongsModel", name := "findLines", desc := "(I)V" } : Jvm.MethodName)) ∈ gt := gt_mem 1250 (by decide +kernel) rfl
theorem tw_1209 : (Jvm.Cond.instanceMethod ({ cls := "HeaveSongsModel", name := "findLines", desc := "(I)V" } : Jvm.MethodName)) ∈ gt := gt_mem 1252 (by decide +kernel) rfl
theorem tw_1210 : (Jvm.Cond.code ({ cls := "HeaveSongsModel", name := "findLines", desc := "(I)V" } : Jvm.MethodName) prog_14_method_41_code (10 : Nat) (Option.none : Option Jvm.ClassFile.FieldType)) ∈ gt := gt_mem 1253 (by decide +kernel) rfl
theorem tw_1211 : (Jvm.Cond.methodLink "HeaveSongsModel" (207 : Nat) ({ cls := "HeaveSongsModel", name := "sungFrom", desc := "(II)I" } : Jvm.MethodName)) ∈ gt := gt_mem 1254 (by decide +kernel) rfl
theorem tw_1213 : (Jvm.Cond.instanceMethod ({ cls := "HeaveSongsModel", name := "sungFrom", desc := "(II)I" } : Jvm.MethodName)) ∈ gt := gt_mem 1256 (by decide +kernel) rfl
theorem tw_1214 : (Jvm.Cond.code ({ cls := "HeaveSongsModel", name := "sungFrom", desc := "(II)I" } : Jvm.MethodName) prog_14_method_39_code (4 : Nat) (Option.some Jvm.ClassFile.FieldType.int)) ∈ gt := gt_mem 1257 (by decide +kernel) rfl
theorem tw_1215 : (Jvm.Cond.methodLink "HeaveSongsModel" (204 : Nat) ({ cls := "HeaveSongsModel", name := "isSung", desc := "(I)Z" } : Jvm.MethodName)) ∈ gt := gt_mem 1258 (by decide +kernel) rfl
theorem tw_1216 : (Jvm.Cond.static ({ cls := "HeaveSongsModel", name := "isSung", desc := "(I)Z" } : Jvm.MethodName)) ∈ gt := gt_mem 1259 (by decide +kernel) rfl
theorem tw_1217 : (Jvm.Cond.code ({ cls := "HeaveSongsModel", name := "isSung", desc := "(I)Z" } : Jvm.MethodName) prog_14_method_38_code (1 : Nat) (Option.some Jvm.ClassFile.FieldType.boolean)) ∈ gt := gt_mem 1260 (by decide +kernel) rfl
theorem tw_1218 : (Jvm.Cond.constant "HeaveSongsModel" (210 : Nat) (1000000000 : Int32)) ∈ gt := gt_mem 1261 (by decide +kernel) rfl
theorem tw_1219 : (Jvm.Cond.methodLink "HeaveSongsModel" (211 : Nat) ({ cls := "HeaveSongsModel", name := "wrongOf", desc := "(III)I" } : Jvm.MethodName)) ∈ gt := gt_mem 1262 (by decide +kernel) rfl
theorem tw_1221 : (Jvm.Cond.instanceMethod ({ cls := "HeaveSongsModel", name := "wrongOf", desc := "(III)I" } : Jvm.MethodName)) ∈ gt := gt_mem 1264 (by decide +kernel) rfl
theorem tw_1222 : (Jvm.Cond.code ({ cls := "HeaveSongsModel", name := "wrongOf", desc := "(III)I" } : Jvm.MethodName) prog_14_method_40_code (8 : Nat) (Option.some Jvm.ClassFile.FieldType.int)) ∈ gt := gt_mem 1265 (by decide +kernel) rfl
theorem tw_1223 : (Jvm.Cond.constantLong "HeaveSongsModel" (215 : Nat) (1000000000000000 : Int64)) ∈ gt := gt_mem 1266 (by decide +kernel) rfl
theorem tw_1224 : (Jvm.Cond.methodLink "HeaveSongsLaw" (109 : Nat) ({ cls := "HeaveSongsModel", name := "lineAt", desc := "(IJI)I" } : Jvm.MethodName)) ∈ gt := gt_mem 1267 (by decide +kernel) rfl
theorem tw_1225 : (Jvm.Cond.instanceMethod ({ cls := "HeaveSongsModel", name := "lineAt", desc := "(IJI)I" } : Jvm.MethodName)) ∈ gt := gt_mem 1268 (by decide +kernel) rfl
theorem tw_1226 : (Jvm.Cond.selects "HeaveSongsModel" ({ cls := "HeaveSongsModel", name := "lineAt", desc := "(IJI)I" } : Jvm.MethodName) ({ cls := "HeaveSongsModel", name := "lineAt", desc := "(IJI)I" } : Jvm.MethodName)) ∈ gt := gt_mem 1269 (by decide +kernel) rfl
theorem tw_1227 : (Jvm.Cond.code ({ cls := "HeaveSongsModel", name := "lineAt", desc := "(IJI)I" } : Jvm.MethodName) prog_14_method_43_code (13 : Nat) (Option.some Jvm.ClassFile.FieldType.int)) ∈ gt := gt_mem 1270 (by decide +kernel) rfl
theorem tw_1228 : (Jvm.Cond.methodLink "HeaveSongsLaw" (113 : Nat) ({ cls := "HeaveSongsModel", name := "near", desc := "(I)I" } : Jvm.MethodName)) ∈ gt := gt_mem 1271 (by decide +kernel) rfl
theorem tw_1229 : (Jvm.Cond.instanceMethod ({ cls := "HeaveSongsModel", name := "near", desc := "(I)I" } : Jvm.MethodName)) ∈ gt := gt_mem 1272 (by decide +kernel) rfl
theorem tw_1230 : (Jvm.Cond.selects "HeaveSongsModel" ({ cls := "HeaveSongsModel", name := "near", desc := "(I)I" } : Jvm.MethodName) ({ cls := "HeaveSongsModel", name := "near", desc := "(I)I" } : Jvm.MethodName)) ∈ gt := gt_mem 1273 (by decide +kernel) rfl
theorem tw_1231 : (Jvm.Cond.code ({ cls := "HeaveSongsModel", name := "near", desc := "(I)I" } : Jvm.MethodName) prog_14_method_44_code (2 : Nat) (Option.some Jvm.ClassFile.FieldType.int)) ∈ gt := gt_mem 1274 (by decide +kernel) rfl
theorem tw_1232 : (Jvm.Cond.methodLink "HeaveSongsLaw" (117 : Nat) ({ cls := "HeaveSongsModel", name := "nearAt", desc := "(II)I" } : Jvm.MethodName)) ∈ gt := gt_mem 1275 (by decide +kernel) rfl
theorem tw_1233 : (Jvm.Cond.instanceMethod ({ cls := "HeaveSongsModel", name := "nearAt", desc := "(II)I" } : Jvm.MethodName)) ∈ gt := gt_mem 1276 (by decide +kernel) rfl
theorem tw_1234 : (Jvm.Cond.selects "HeaveSongsModel" ({ cls := "HeaveSongsModel", name := "nearAt", desc := "(II)I" } : Jvm.MethodName) ({ cls := "HeaveSongsModel", name := "nearAt", desc := "(II)I" } : Jvm.MethodName)) ∈ gt := gt_mem 1277 (by decide +kernel) rfl
theorem tw_1235 : (Jvm.Cond.code ({ cls := "HeaveSongsModel", name := "nearAt", desc := "(II)I" } : Jvm.MethodName) prog_14_method_45_code (6 : Nat) (Option.some Jvm.ClassFile.FieldType.int)) ∈ gt := gt_mem 1278 (by decide +kernel) rfl
theorem tw_1236 : (Jvm.Cond.methodLink "HeaveSongsLaw" (121 : Nat) ({ cls := "HeaveSongsModel", name := "mark", desc := "(II)I" } : Jvm.MethodName)) ∈ gt := gt_mem 1279 (by decide +kernel) rfl
theorem tw_1237 : (Jvm.Cond.instanceMethod ({ cls := "HeaveSongsModel", name := "mark", desc := "(II)I" } : Jvm.MethodName)) ∈ gt := gt_mem 1280 (by decide +kernel) rfl
theorem tw_1238 : (Jvm.Cond.selects "HeaveSongsModel" ({ cls := "HeaveSongsModel", name := "mark", desc := "(II)I" } : Jvm.MethodName) ({ cls := "HeaveSongsModel", name := "mark", desc := "(II)I" } : Jvm.MethodName)) ∈ gt := gt_mem 1281 (by decide +kernel) rfl
theorem tw_1239 : (Jvm.Cond.code ({ cls := "HeaveSongsModel", name := "mark", desc := "(II)I" } : Jvm.MethodName) prog_14_method_46_code (3 : Nat) (Option.some Jvm.ClassFile.FieldType.int)) ∈ gt := gt_mem 1282 (by decide +kernel) rfl
theorem tw_1240 : (Jvm.Cond.constantLong "HeaveSongsModel" (223 : Nat) (299 : Int64)) ∈ gt := gt_mem 1283 (by decide +kernel) rfl
theorem tw_1241 : (Jvm.Cond.constantLong "HeaveSongsModel" (225 : Nat) (5000 : Int64)) ∈ gt := gt_mem 1284 (by decide +kernel) rfl
theorem tw_1242 : (Jvm.Cond.methodLink "HeaveSongsLaw" (125 : Nat) ({ cls := "HeaveSongsModel", name := "wipe", desc := "()I" } : Jvm.MethodName)) ∈ gt := gt_mem 1285 (by decide +kernel) rfl
theorem tw_1243 : (Jvm.Cond.instanceMethod ({ cls := "HeaveSongsModel", name := "wipe", desc := "()I" } : Jvm.MethodName)) ∈ gt := gt_mem 1286 (by decide +kernel) rfl
theorem tw_1244 : (Jvm.Cond.selects "HeaveSongsModel" ({ cls := "HeaveSongsModel", name := "wipe", desc := "()I" } : Jvm.MethodName) ({ cls := "HeaveSongsModel", name := "wipe", desc := "()I" } : Jvm.MethodName)) ∈ gt := gt_mem 1287 (by decide +kernel) rfl
theorem tw_1245 : (Jvm.Cond.code ({ cls := "HeaveSongsModel", name := "wipe", desc := "()I" } : Jvm.MethodName) prog_14_method_47_code (2 : Nat) (Option.some Jvm.ClassFile.FieldType.int)) ∈ gt := gt_mem 1288 (by decide +kernel) rfl
theorem tw_1246 : (Jvm.Cond.methodLink "HeaveSongsLaw" (129 : Nat) ({ cls := "HeaveSongsModel", name := "who", desc := "(IIII)I" } : Jvm.MethodName)) ∈ gt := gt_mem 1289 (by decide +kernel) rfl
theorem tw_1247 : (Jvm.Cond.instanceMethod ({ cls := "HeaveSongsModel", name := "who", desc := "(IIII)I" } : Jvm.MethodName)) ∈ gt := gt_mem 1290 (by decide +kernel) rfl
theorem tw_1248 : (Jvm.Cond.selects "HeaveSongsModel" ({ cls := "HeaveSongsModel", name := "who", desc := "(IIII)I" } : Jvm.MethodName) ({ cls := "HeaveSongsModel", name := "who", desc := "(IIII)I" } : Jvm.MethodName)) ∈ gt := gt_mem 1291 (by decide +kernel) rfl
theorem tw_1249 : (Jvm.Cond.code ({ cls := "HeaveSongsModel", name := "who", desc := "(IIII)I" } : Jvm.MethodName) prog_14_method_50_code (9 : Nat) (Option.some Jvm.ClassFile.FieldType.int)) ∈ gt := gt_mem 1292 (by decide +kernel) rfl
theorem tw_1250 : (Jvm.Cond.methodLink "HeaveSongsModel" (230 : Nat) ({ cls := "HeaveSongsModel", name := "sumOf", desc := "(IIIIIII)I" } : Jvm.MethodName)) ∈ gt := gt_mem 1293 (by decide +kernel) rfl
theorem tw_1252 : (Jvm.Cond.instanceMethod ({ cls := "HeaveSongsModel", name := "sumOf", desc := "(IIIIIII)I" } : Jvm.MethodName)) ∈ gt := gt_mem 1295 (by decide +kernel) rfl
theorem tw_1253 : (Jvm.Cond.code ({ cls := "HeaveSongsModel", name := "sumOf", desc := "(IIIIIII)I" } : Jvm.MethodName) prog_14_method_48_code (11 : Nat) (Option.some Jvm.ClassFile.FieldType.int)) ∈ gt := gt_mem 1296 (by decide +kernel) rfl
theorem tw_1254 : (Jvm.Cond.methodLink "HeaveSongsModel" (240 : Nat) ({ cls := "HeaveSongsModel", name := "isOf", desc := "(I)Z" } : Jvm.MethodName)) ∈ gt := gt_mem 1297 (by decide +kernel) rfl
theorem tw_1256 : (Jvm.Cond.instanceMethod ({ cls := "HeaveSongsModel", name := "isOf", desc := "(I)Z" } : Jvm.MethodName)) ∈ gt := gt_mem 1299 (by decide +kernel) rfl
theorem tw_1257 : (Jvm.Cond.code ({ cls := "HeaveSongsModel", name := "isOf", desc := "(I)Z" } : Jvm.MethodName) prog_14_method_49_code (2 : Nat) (Option.some Jvm.ClassFile.FieldType.boolean)) ∈ gt := gt_mem 1300 (by decide +kernel) rfl
theorem tw_1258 : (Jvm.Cond.methodLink "HeaveSongsLaw" (133 : Nat) ({ cls := "HeaveSongsModel", name := "two", desc := "(IIII)I" } : Jvm.MethodName)) ∈ gt := gt_mem 1301 (by decide +kernel) rfl
theorem tw_1259 : (Jvm.Cond.instanceMethod ({ cls := "HeaveSongsModel", name := "two", desc := "(IIII)I" } : Jvm.MethodName)) ∈ gt := gt_mem 1302 (by decide +kernel) rfl
theorem tw_1260 : (Jvm.Cond.selects "HeaveSongsModel" ({ cls := "HeaveSongsModel", name := "two", desc := "(IIII)I" } : Jvm.MethodName) ({ cls := "HeaveSongsModel", name := "two", desc := "(IIII)I" } : Jvm.MethodName)) ∈ gt := gt_mem 1303 (by decide +kernel) rfl
theorem tw_1261 : (Jvm.Cond.code ({ cls := "HeaveSongsModel", name := "two", desc := "(IIII)I" } : Jvm.MethodName) prog_14_method_52_code (8 : Nat) (Option.some Jvm.ClassFile.FieldType.int)) ∈ gt := gt_mem 1304 (by decide +kernel) rfl
theorem tw_1262 : (Jvm.Cond.constantLong "HeaveSongsModel" (249 : Nat) (4 : Int64)) ∈ gt := gt_mem 1305 (by decide +kernel) rfl
theorem tw_1263 : (Jvm.Cond.methodLink "HeaveSongsModel" (251 : Nat) ({ cls := "HeaveSongsModel", name := "tryTwo", desc := "(IIIIII)I" } : Jvm.MethodName)) ∈ gt := gt_mem 1306 (by decide +kernel) rfl
theorem tw_1265 : (Jvm.Cond.instanceMethod ({ cls := "HeaveSongsModel", name := "tryTwo", desc := "(IIIIII)I" } : Jvm.MethodName)) ∈ gt := gt_mem 1308 (by decide +kernel) rfl
theorem tw_1266 : (Jvm.Cond.code ({ cls := "HeaveSongsModel", name := "tryTwo", desc := "(IIIIII)I" } : Jvm.MethodName) prog_14_method_51_code (10 : Nat) (Option.some Jvm.ClassFile.FieldType.int)) ∈ gt := gt_mem 1309 (by decide +kernel) rfl
theorem tw_1267 : (Jvm.Cond.methodLink "HeaveSongsLaw" (137 : Nat) ({ cls := "HeaveSongsModel", name := "apart", desc := "(II)I" } : Jvm.MethodName)) ∈ gt := gt_mem 1310 (by decide +kernel) rfl
theorem tw_1268 : (Jvm.Cond.instanceMethod ({ cls := "HeaveSongsModel", name := "apart", desc := "(II)I" } : Jvm.MethodName)) ∈ gt := gt_mem 1311 (by decide +kernel) rfl
theorem tw_1269 : (Jvm.Cond.selects "HeaveSongsModel" ({ cls := "HeaveSongsModel", name := "apart", desc := "(II)I" } : Jvm.MethodName) ({ cls := "HeaveSongsModel", name := "apart", desc := "(II)I" } : Jvm.MethodName)) ∈ gt := gt_mem 1312 (by decide +kernel) rfl
theorem tw_1270 : (Jvm.Cond.code ({ cls := "HeaveSongsModel", name := "apart", desc := "(II)I" } : Jvm.MethodName) prog_14_method_55_code (3 : Nat) (Option.some Jvm.ClassFile.FieldType.int)) ∈ gt := gt_mem 1313 (by decide +kernel) rfl
theorem tw_1271 : (Jvm.Cond.methodLink "HeaveSongsModel" (259 : Nat) ({ cls := "HeaveSongsModel", name := "apartOf", desc := "(II)I" } : Jvm.MethodName)) ∈ gt := gt_mem 1314 (by decide +kernel) rfl
theorem tw_1273 : (Jvm.Cond.instanceMethod ({ cls := "HeaveSongsModel", name := "apartOf", desc := "(II)I" } : Jvm.MethodName)) ∈ gt := gt_mem 1316 (by decide +kernel) rfl
theorem tw_1274 : (Jvm.Cond.code ({ cls := "HeaveSongsModel", name := "apartOf", desc := "(II)I" } : Jvm.MethodName) prog_14_method_54_code (3 : Nat) (Option.some Jvm.ClassFile.FieldType.int)) ∈ gt := gt_mem 1317 (by decide +kernel) rfl
theorem tw_1275 : (Jvm.Cond.methodLink "HeaveSongsModel" (255 : Nat) ({ cls := "HeaveSongsModel", name := "apartBy", desc := "(ZII)I" } : Jvm.MethodName)) ∈ gt := gt_mem 1318 (by decide +kernel) rfl
theorem tw_1277 : (Jvm.Cond.instanceMethod ({ cls := "HeaveSongsModel", name := "apartBy", desc := "(ZII)I" } : Jvm.MethodName)) ∈ gt := gt_mem 1320 (by decide +kernel) rfl
theorem tw_1278 : (Jvm.Cond.code ({ cls := "HeaveSongsModel", name := "apartBy", desc := "(ZII)I" } : Jvm.MethodName) prog_14_method_53_code (14 : Nat) (Option.some Jvm.ClassFile.FieldType.int)) ∈ gt := gt_mem 1321 (by decide +kernel) rfl
theorem tw_1279 : (Jvm.Cond.methodLink "HeaveSongsLaw" (141 : Nat) ({ cls := "HeaveSongsModel", name := "hangs", desc := "(I)I" } : Jvm.MethodName)) ∈ gt := gt_mem 1322 (by decide +kernel) rfl
theorem tw_1280 : (Jvm.Cond.instanceMethod ({ cls := "HeaveSongsModel", name := "hangs", desc := "(I)I" } : Jvm.MethodName)) ∈ gt := gt_mem 1323 (by decide +kernel) rfl
theorem tw_1281 : (Jvm.Cond.selects "HeaveSongsModel" ({ cls := "HeaveSongsModel", name := "hangs", desc := "(I)I" } : Jvm.MethodName) ({ cls := "HeaveSongsModel", name := "hangs", desc := "(I)I" } : Jvm.MethodName)) ∈ gt := gt_mem 1324 (by decide +kernel) rfl
theorem tw_1282 : (Jvm.Cond.code ({ cls := "HeaveSongsModel", name := "hangs", desc := "(I)I" } : Jvm.MethodName) prog_14_method_57_code (2 : Nat) (Option.some Jvm.ClassFile.FieldType.int)) ∈ gt := gt_mem 1325 (by decide +kernel) rfl
theorem tw_1283 : (Jvm.Cond.methodLink "HeaveSongsModel" (265 : Nat) ({ cls := "HeaveSongsModel", name := "findTree", desc := "()V" } : Jvm.MethodName)) ∈ gt := gt_mem 1326 (by decide +kernel) rfl
theorem tw_1285 : (Jvm.Cond.instanceMethod ({ cls := "HeaveSongsModel", name := "findTree", desc := "()V" } : Jvm.MethodName)) ∈ gt := gt_mem 1328 (by decide +kernel) rfl
theorem tw_1286 : (Jvm.Cond.code ({ cls := "HeaveSongsModel", name := "findTree", desc := "()V" } : Jvm.MethodName) prog_14_method_56_code (9 : Nat) (Option.none : Option Jvm.ClassFile.FieldType)) ∈ gt := gt_mem 1329 (by decide +kernel) rfl
theorem tw_1287 : (Jvm.Cond.methodLink "HeaveSongsLaw" (145 : Nat) ({ cls := "HeaveSongsModel", name := "tree", desc := "()I" } : Jvm.MethodName)) ∈ gt := gt_mem 1330 (by decide +kernel) rfl
theorem tw_1288 : (Jvm.Cond.instanceMethod ({ cls := "HeaveSongsModel", name := "tree", desc := "()I" } : Jvm.MethodName)) ∈ gt := gt_mem 1331 (by decide +kernel) rfl
theorem tw_1289 : (Jvm.Cond.selects "HeaveSongsModel" ({ cls := "HeaveSongsModel", name := "tree", desc := "()I" } : Jvm.MethodName) ({ cls := "HeaveSongsModel", name := "tree", desc := "()I" } : Jvm.MethodName)) ∈ gt := gt_mem 1332 (by decide +kernel) rfl
theorem tw_1290 : (Jvm.Cond.code ({ cls := "HeaveSongsModel", name := "tree", desc := "()I" } : Jvm.MethodName) prog_14_method_58_code (1 : Nat) (Option.some Jvm.ClassFile.FieldType.int)) ∈ gt := gt_mem 1333 (by decide +kernel) rfl
theorem tw_1291 : (Jvm.Cond.methodLink "HeaveSongsLaw" (149 : Nat) ({ cls := "HeaveSongsModel", name := "count", desc := "(I)I" } : Jvm.MethodName)) ∈ gt := gt_mem 1334 (by decide +kernel) rfl
theorem tw_1292 : (Jvm.Cond.instanceMethod ({ cls := "HeaveSongsModel", name := "count", desc := "(I)I" } : Jvm.MethodName)) ∈ gt := gt_mem 1335 (by decide +kernel) rfl
theorem tw_1293 : (Jvm.Cond.selects "HeaveSongsModel" ({ cls := "HeaveSongsModel", name := "count", desc := "(I)I" } : Jvm.MethodName) ({ cls := "HeaveSongsModel", name := "count", desc := "(I)I" } : Jvm.MethodName)) ∈ gt := gt_mem 1336 (by decide +kernel) rfl
theorem tw_1294 : (Jvm.Cond.code ({ cls := "HeaveSongsModel", name := "count", desc := "(I)I" } : Jvm.MethodName) prog_14_method_59_code (2 : Nat) (Option.some Jvm.ClassFile.FieldType.int)) ∈ gt := gt_mem 1337 (by decide +kernel) rfl
theorem tw_1295 : (Jvm.Cond.methodLink "HeaveSongsLaw" (154 : Nat) ({ cls := "HeaveSongsModel", name := "digest", desc := "()J" } : Jvm.MethodName)) ∈ gt := gt_mem 1338 (by decide +kernel) rfl
theorem tw_1296 : (Jvm.Cond.instanceMethod ({ cls := "HeaveSongsModel", name := "digest", desc := "()J" } : Jvm.MethodName)) ∈ gt := gt_mem 1339 (by decide +kernel) rfl
theorem tw_1297 : (Jvm.Cond.selects "HeaveSongsModel" ({ cls := "HeaveSongsModel", name := "digest", desc := "()J" } : Jvm.MethodName) ({ cls := "HeaveSongsModel", name := "digest", desc := "()J" } : Jvm.MethodName)) ∈ gt := gt_mem 1340 (by decide +kernel) rfl
theorem tw_1298 : (Jvm.Cond.code ({ cls := "HeaveSongsModel", name := "digest", desc := "()J" } : Jvm.MethodName) prog_14_method_61_code (3 : Nat) (Option.some Jvm.ClassFile.FieldType.long)) ∈ gt := gt_mem 1341 (by decide +kernel) rfl
theorem tw_1299 : (Jvm.Cond.constantLong "HeaveSongsModel" (274 : Nat) (283 : Int64)) ∈ gt := gt_mem 1342 (by decide +kernel) rfl
theorem tw_1300 : (Jvm.Cond.methodLink "HeaveSongsModel" (276 : Nat) ({ cls := "HeaveSongsModel", name := "count", desc := "(I)I" } : Jvm.MethodName)) ∈ gt := gt_mem 1343 (by decide +kernel) rfl
theorem tw_1301 : (Jvm.Cond.methodLink "HeaveSongsModel" (279 : Nat) ({ cls := "HeaveSongsModel", name := "note", desc := "(J)V" } : Jvm.MethodName)) ∈ gt := gt_mem 1344 (by decide +kernel) rfl
theorem tw_1303 : (Jvm.Cond.instanceMethod ({ cls := "HeaveSongsModel", name := "note", desc := "(J)V" } : Jvm.MethodName)) ∈ gt := gt_mem 1346 (by decide +kernel) rfl
theorem tw_1304 : (Jvm.Cond.code ({ cls := "HeaveSongsModel", name := "note", desc := "(J)V" } : Jvm.MethodName) prog_14_method_60_code (3 : Nat) (Option.none : Option Jvm.ClassFile.FieldType)) ∈ gt := gt_mem 1347 (by decide +kernel) rfl
theorem tw_1305 : (Jvm.Cond.constantLong "HeaveSongsModel" (268 : Nat) (31 : Int64)) ∈ gt := gt_mem 1348 (by decide +kernel) rfl
theorem tw_1306 : (Jvm.Cond.constantLong "HeaveSongsLaw" (103 : Nat) (4294967295 : Int64)) ∈ gt := gt_mem 1349 (by decide +kernel) rfl
theorem tw_1321 : (Jvm.Cond.sameMethod "[Ljava/lang/Object;" "java/lang/Object" "getClass" "()Ljava/lang/Class;") ∈ gt := gt_mem 1364 (by decide +kernel) rfl
theorem tw_1322 : (Jvm.Cond.selects "[Ljava/lang/Object;" ({ cls := "java/lang/Object", name := "getClass", desc := "()Ljava/lang/Class;" } : Jvm.MethodName) ({ cls := "java/lang/Object", name := "getClass", desc := "()Ljava/lang/Class;" } : Jvm.MethodName)) ∈ gt := gt_mem 1365 (by decide +kernel) rfl
def nw_nest : List (String × Nat × MethodName × String) := [("HeaveSongs", 9, ({ cls := "HeaveSongs$Row", name := "<init>", desc := "()V" } : Jvm.MethodName), "HeaveSongs"), ("HeaveSongs", 25, ({ cls := "HeaveSongs$Hands", name := "<init>", desc := "()V" } : Jvm.MethodName), "HeaveSongs"), ("HeaveSongs", 32, ({ cls := "HeaveSongs$Haul", name := "<init>", desc := "()V" } : Jvm.MethodName), "HeaveSongs"), ("HeaveSongs", 42, ({ cls := "HeaveSongs$TaskSearch", name := "<init>", desc := "()V" } : Jvm.MethodName), "HeaveSongs"), ("HeaveSongs$TaskSearch", 11, ({ cls := "HeaveSongs$Haul", name := "<init>", desc := "()V" } : Jvm.MethodName), "HeaveSongs"), ("HeaveSongs", 52, ({ cls := "HeaveSongs$LineMaker", name := "<init>", desc := "()V" } : Jvm.MethodName), "HeaveSongs"), ("HeaveSongs", 59, ({ cls := "HeaveSongs$Marks", name := "<init>", desc := "()V" } : Jvm.MethodName), "HeaveSongs"), ("HeaveSongs", 66, ({ cls := "HeaveSongs$LateSearch", name := "<init>", desc := "()V" } : Jvm.MethodName), "HeaveSongs"), ("HeaveSongs$LateSearch", 11, ({ cls := "HeaveSongs$Haul", name := "<init>", desc := "()V" } : Jvm.MethodName), "HeaveSongs"), ("HeaveSongs", 73, ({ cls := "HeaveSongs$Kin", name := "<init>", desc := "()V" } : Jvm.MethodName), "HeaveSongs"), ("HeaveSongs", 91, ({ cls := "HeaveSongs$Song", name := "<init>", desc := "()V" } : Jvm.MethodName), "HeaveSongs"), ("HeaveSongs$Song", 11, ({ cls := "HeaveSongs$Row", name := "<init>", desc := "()V" } : Jvm.MethodName), "HeaveSongs"), ("HeaveSongs$Row", 19, ({ cls := "HeaveSongs", name := "copy", desc := "([I[I)V" } : Jvm.MethodName), "HeaveSongs"), ("HeaveSongs$Hands", 34, ({ cls := "HeaveSongs", name := "within", desc := "(III)Z" } : Jvm.MethodName), "HeaveSongs"), ("HeaveSongs$Haul", 30, ({ cls := "HeaveSongs", name := "copy", desc := "([I[I)V" } : Jvm.MethodName), "HeaveSongs"), ("HeaveSongs$Haul", 84, ({ cls := "HeaveSongs", name := "isIn", desc := "(II)Z" } : Jvm.MethodName), "HeaveSongs"), ("HeaveSongs$Haul", 88, ({ cls := "HeaveSongs", name := "within", desc := "(III)Z" } : Jvm.MethodName), "HeaveSongs"), ("HeaveSongs$TaskSearch", 51, ({ cls := "HeaveSongs", name := "copy", desc := "([I[I)V" } : Jvm.MethodName), "HeaveSongs"), ("HeaveSongs$LineMaker", 31, ({ cls := "HeaveSongs", name := "isSilent", desc := "(I)Z" } : Jvm.MethodName), "HeaveSongs"), ("HeaveSongs$Word", 27, ({ cls := "HeaveSongs", name := "isSilent", desc := "(I)Z" } : Jvm.MethodName), "HeaveSongs"), ("HeaveSongs$LineMaker", 96, ({ cls := "HeaveSongs", name := "within", desc := "(III)Z" } : Jvm.MethodName), "HeaveSongs"), ("HeaveSongs$Marks", 28, ({ cls := "HeaveSongs", name := "within", desc := "(III)Z" } : Jvm.MethodName), "HeaveSongs"), ("HeaveSongs$LateSearch", 44, ({ cls := "HeaveSongs", name := "isIn", desc := "(II)Z" } : Jvm.MethodName), "HeaveSongs")]
def nw_cast : List (String × String) := [("HeaveSongs", "java/lang/Object"), ("HeaveSongs$Row", "java/lang/Object"), ("java/util/ArrayList", "java/lang/Object"), ("HeaveSongs$Hands", "java/lang/Object"), ("HeaveSongs$Haul", "java/lang/Object"), ("HeaveSongs$TaskSearch", "java/lang/Object"), ("HeaveSongs$LineMaker", "java/lang/Object"), ("HeaveSongs$Marks", "java/lang/Object"), ("HeaveSongs$LateSearch", "java/lang/Object"), ("HeaveSongs$Kin", "java/lang/Object"), ("HeaveSongsModel", "java/lang/Object"), ("HeaveSongs$Song", "java/lang/Object"), ("HeaveSongs$Task", "java/lang/Object"), ("HeaveSongs$Word", "java/lang/Object"), ("[I", "java/lang/Object"), ("[[I", "java/lang/Object"), ("[J", "java/lang/Object"), ("[Z", "java/lang/Object"), ("[Ljava/lang/Object;", "java/lang/Object")]
theorem gt_sub {ws : List Cond} (ps : List Nat) (hp : ws = ps.filterMap (fun i => lw_tbl[i]?)) (h : ws.all goodWord = true) : ∀ w ∈ ws, w ∈ gt := fun w hw => by
  have h1 := List.all_eq_true.mp h w hw
  rw [hp] at hw
  obtain ⟨i, -, hi⟩ := List.mem_filterMap.mp hw
  exact List.mem_filter.mpr ⟨List.mem_of_getElem? hi, h1⟩
theorem inJx4a65c : ∀ w ∈ u_ws RJx4a65c TJx4a65c 3, w ∈ gt := gt_sub [121, 117, 119] (by decide +kernel) (by decide +kernel)
theorem inX0 : ∀ w ∈ u_ws RX0 TX0 9, w ∈ gt := gt_sub [156, 158, 160, 162, 164, 166, 168, 170, 172] (by decide +kernel) (by decide +kernel)
theorem inX1 : ∀ w ∈ u_ws RX1 TX1 8, w ∈ gt := gt_sub [198, 200, 202, 204, 206, 208, 210, 212] (by decide +kernel) (by decide +kernel)
theorem inX2 : ∀ w ∈ u_ws RX2 TX2 3, w ∈ gt := gt_sub [342, 344, 346] (by decide +kernel) (by decide +kernel)
theorem inX3 : ∀ w ∈ u_ws RX3 TX3 6, w ∈ gt := gt_sub [319, 321, 323, 325, 327, 329] (by decide +kernel) (by decide +kernel)
theorem inX4 : ∀ w ∈ u_ws RX4 TX4 5, w ∈ gt := gt_sub [271, 273, 275, 277, 279] (by decide +kernel) (by decide +kernel)
theorem inX5 : ∀ w ∈ u_ws RX5 TX5 3, w ∈ gt := gt_sub [293, 295, 297] (by decide +kernel) (by decide +kernel)
theorem inX6 : ∀ w ∈ u_ws RX6 TX6 2, w ∈ gt := gt_sub [92, 94] (by decide +kernel) (by decide +kernel)
theorem inX7 : ∀ w ∈ u_ws RX7 TX7 2, w ∈ gt := gt_sub [421, 423] (by decide +kernel) (by decide +kernel)
theorem inX8 : ∀ w ∈ u_ws RX8 TX8 3, w ∈ gt := gt_sub [598, 600, 602] (by decide +kernel) (by decide +kernel)
theorem inX9 : ∀ w ∈ u_ws RX9 TX9 9, w ∈ gt := gt_sub [241, 243, 245, 247, 249, 251, 253, 255, 257] (by decide +kernel) (by decide +kernel)
theorem inX10 : ∀ w ∈ u_ws RX10 TX10 2, w ∈ gt := gt_sub [727, 729] (by decide +kernel) (by decide +kernel)
theorem inX11 : ∀ w ∈ u_ws RX11 TX11 12, w ∈ gt := gt_sub [362, 364, 366, 368, 370, 372, 374, 376, 378, 380, 382, 384] (by decide +kernel) (by decide +kernel)
theorem inX12 : ∀ w ∈ u_ws RX12 TX12 47, w ∈ gt := gt_sub [1006, 1008, 1010, 1012, 1014, 1016, 1018, 1020, 1022, 1024, 1026, 1028, 1030, 1032, 1034, 1036, 1038, 1040, 1042, 1044, 1046, 1048, 1050, 1052, 1054, 1056, 1058, 1060, 1062, 1064, 1066, 1068, 1070, 1072, 1074, 1076, 1078, 1080, 1082, 1084, 1086, 1088, 1090, 1092, 1094, 1096, 1098] (by decide +kernel) (by decide +kernel)
