def RX0 : String := "BlastPlanner$Blast"
def TX0 : u_T := fun k => match k with
  | 0 => ("BlastPlanner$Blast", "sizes", "[I", true)
  | 1 => ("BlastPlanner$Blast", "delays", "[I", true)
  | 2 => ("BlastPlanner$Blast", "squaredDistances", "[I", true)
  | 3 => ("BlastPlanner$Blast", "dusty", "[I", true)
  | 4 => ("BlastPlanner$Blast", "x", "I", false)
  | 5 => ("BlastPlanner$Blast", "y", "I", false)
  | 6 => ("BlastPlanner$Blast", "radius", "I", false)
  | 7 => ("BlastPlanner$Blast", "charges", "I", false)
  | 8 => ("BlastPlanner$Blast", "windowSum", "I", false)
  | 9 => ("BlastPlanner$Blast", "windowFirst", "I", false)
  | 10 => ("BlastPlanner$Blast", "tooStrong", "I", false)
  | 11 => ("BlastPlanner$Blast", "closedRoads", "I", false)
  | 12 => ("BlastPlanner$Blast", "heardBy", "I", false)
  | _ => ("BlastPlanner$Blast", "fired", "Z", false)
def tyX0 : Nat → FieldType := fun k => match k with
  | 0 => .array .int
  | 1 => .array .int
  | 2 => .array .int
  | 3 => .array .int
  | 4 => .int
  | 5 => .int
  | 6 => .int
  | 7 => .int
  | 8 => .int
  | 9 => .int
  | 10 => .int
  | 11 => .int
  | 12 => .int
  | _ => .boolean
abbrev wsX00 : List Cond := u_ws RX0 TX0 14
theorem nmX0 : ∀ a, a < 14 → ∀ b, b < 14 → a ≠ b → (TX0 a).2.1 ≠ (TX0 b).2.1 := by decide +kernel
theorem tyX0_ok : ∀ k, k < 14 → parseFieldDescriptor (TX0 k).2.2.1 = some (tyX0 k) := by decide +kernel
abbrev cX0_init : ByteArray := prog_2_method_1_code
def yX0_init : MethodName := ⟨RX0, "<init>", "()V"⟩
abbrev cX0_addCharge : ByteArray := prog_2_method_2_code
def yX0_addCharge : MethodName := ⟨RX0, "addCharge", "(II)V"⟩
abbrev cX0_spreadDelays : ByteArray := prog_2_method_3_code
def yX0_spreadDelays : MethodName := ⟨RX0, "spreadDelays", "(I)V"⟩
abbrev cX0_sumFromDelay : ByteArray := prog_2_method_6_code
def yX0_sumFromDelay : MethodName := ⟨RX0, "sumFromDelay", "(I)I"⟩
abbrev cX0_measureWindow : ByteArray := prog_2_method_7_code
def yX0_measureWindow : MethodName := ⟨RX0, "measureWindow", "()V"⟩
abbrev cX0_windowIfGap : ByteArray := prog_2_method_8_code
def yX0_windowIfGap : MethodName := ⟨RX0, "windowIfGap", "(I)I"⟩
abbrev cX0_shakes : ByteArray := prog_2_method_9_code
def yX0_shakes : MethodName := ⟨RX0, "shakes", "(II)I"⟩
abbrev cX0_closesRoad : ByteArray := prog_2_method_10_code
def yX0_closesRoad : MethodName := ⟨RX0, "closesRoad", "(I)Z"⟩
def RX1 : String := "BlastPlanner$FormattedText"
def TX1 : u_T := fun k => match k with
  | 0 => ("BlastPlanner$FormattedText", "bytes", "[B", true)
  | _ => ("BlastPlanner$FormattedText", "length", "I", false)
def tyX1 : Nat → FieldType := fun k => match k with
  | 0 => .array .byte
  | _ => .int
abbrev wsX10 : List Cond := u_ws RX1 TX1 2
theorem nmX1 : ∀ a, a < 2 → ∀ b, b < 2 → a ≠ b → (TX1 a).2.1 ≠ (TX1 b).2.1 := by decide +kernel
theorem tyX1_ok : ∀ k, k < 2 → parseFieldDescriptor (TX1 k).2.2.1 = some (tyX1 k) := by decide +kernel
abbrev cX1_init : ByteArray := prog_3_method_1_code
def yX1_init : MethodName := ⟨RX1, "<init>", "()V"⟩
def RX2 : String := "BlastPlanner$History"
def TX2 : u_T := fun k => match k with
  | 0 => ("BlastPlanner$History", "rows", "[[I", true)
  | 1 => ("BlastPlanner$History", "next", "I", false)
  | _ => ("BlastPlanner$History", "depth", "I", false)
def tyX2 : Nat → FieldType := fun k => match k with
  | 0 => .array (.array .int)
  | 1 => .int
  | _ => .int
abbrev wsX20 : List Cond := u_ws RX2 TX2 3
theorem nmX2 : ∀ a, a < 3 → ∀ b, b < 3 → a ≠ b → (TX2 a).2.1 ≠ (TX2 b).2.1 := by decide +kernel
theorem tyX2_ok : ∀ k, k < 3 → parseFieldDescriptor (TX2 k).2.2.1 = some (tyX2 k) := by decide +kernel
abbrev cX2_init : ByteArray := prog_4_method_1_code
def yX2_init : MethodName := ⟨RX2, "<init>", "()V"⟩
abbrev cX2_clear : ByteArray := prog_4_method_2_code
def yX2_clear : MethodName := ⟨RX2, "clear", "()V"⟩
abbrev cX2_record : ByteArray := prog_4_method_3_code
def yX2_record : MethodName := ⟨RX2, "record", "(LBlastPlanner$Site;)V"⟩
def RX3 : String := "BlastPlanner$MinuteSet"
def TX3 : u_T := fun k => match k with
  | 0 => ("BlastPlanner$MinuteSet", "firsts", "[I", true)
  | 1 => ("BlastPlanner$MinuteSet", "ends", "[I", true)
  | _ => ("BlastPlanner$MinuteSet", "runs", "I", false)
def tyX3 : Nat → FieldType := fun k => match k with
  | 0 => .array .int
  | 1 => .array .int
  | _ => .int
abbrev wsX30 : List Cond := u_ws RX3 TX3 3
theorem nmX3 : ∀ a, a < 3 → ∀ b, b < 3 → a ≠ b → (TX3 a).2.1 ≠ (TX3 b).2.1 := by decide +kernel
theorem tyX3_ok : ∀ k, k < 3 → parseFieldDescriptor (TX3 k).2.2.1 = some (tyX3 k) := by decide +kernel
abbrev cX3_init : ByteArray := prog_5_method_1_code
def yX3_init : MethodName := ⟨RX3, "<init>", "()V"⟩
abbrev cX3_clear : ByteArray := prog_5_method_2_code
def yX3_clear : MethodName := ⟨RX3, "clear", "()V"⟩
abbrev cX3_add : ByteArray := prog_5_method_3_code
def yX3_add : MethodName := ⟨RX3, "add", "(II)V"⟩
abbrev cX3_insert : ByteArray := prog_5_method_4_code
def yX3_insert : MethodName := ⟨RX3, "insert", "(II)V"⟩
abbrev cX3_contains : ByteArray := prog_5_method_5_code
def yX3_contains : MethodName := ⟨RX3, "contains", "(I)Z"⟩
abbrev cX3_size : ByteArray := prog_5_method_6_code
def yX3_size : MethodName := ⟨RX3, "size", "()I"⟩
abbrev cX3_sizeWithin : ByteArray := prog_5_method_7_code
def yX3_sizeWithin : MethodName := ⟨RX3, "sizeWithin", "(II)I"⟩
def RX4 : String := "BlastPlanner$Neighbour"
def TX4 : u_T := fun k => match k with
  | 0 => ("BlastPlanner$Neighbour", "quietFirst", "[I", true)
  | 1 => ("BlastPlanner$Neighbour", "quietEnd", "[I", true)
  | 2 => ("BlastPlanner$Neighbour", "x", "I", false)
  | 3 => ("BlastPlanner$Neighbour", "y", "I", false)
  | 4 => ("BlastPlanner$Neighbour", "limit", "I", false)
  | _ => ("BlastPlanner$Neighbour", "windows", "I", false)
def tyX4 : Nat → FieldType := fun k => match k with
  | 0 => .array .int
  | 1 => .array .int
  | 2 => .int
  | 3 => .int
  | 4 => .int
  | _ => .int
abbrev wsX40 : List Cond := u_ws RX4 TX4 6
theorem nmX4 : ∀ a, a < 6 → ∀ b, b < 6 → a ≠ b → (TX4 a).2.1 ≠ (TX4 b).2.1 := by decide +kernel
theorem tyX4_ok : ∀ k, k < 6 → parseFieldDescriptor (TX4 k).2.2.1 = some (tyX4 k) := by decide +kernel
abbrev cX4_init : ByteArray := prog_6_method_1_code
def yX4_init : MethodName := ⟨RX4, "<init>", "()V"⟩
abbrev cX4_addWindow : ByteArray := prog_6_method_2_code
def yX4_addWindow : MethodName := ⟨RX4, "addWindow", "(II)V"⟩
abbrev cX4_quietAt : ByteArray := prog_6_method_3_code
def yX4_quietAt : MethodName := ⟨RX4, "quietAt", "(I)Z"⟩
def RX5 : String := "BlastPlanner$Parser"
def TX5 : u_T := fun k => match k with
  | _ => ("BlastPlanner$Parser", "tokens", "LBlastPlanner$Tokens;", true)
def tyX5 : Nat → FieldType := fun k => match k with
  | _ => .object "BlastPlanner$Tokens"
abbrev wsX50 : List Cond := u_ws RX5 TX5 1
theorem nmX5 : ∀ a, a < 1 → ∀ b, b < 1 → a ≠ b → (TX5 a).2.1 ≠ (TX5 b).2.1 := by decide +kernel
theorem tyX5_ok : ∀ k, k < 1 → parseFieldDescriptor (TX5 k).2.2.1 = some (tyX5 k) := by decide +kernel
abbrev cX5_init : ByteArray := prog_7_method_1_code
def yX5_init : MethodName := ⟨RX5, "<init>", "()V"⟩
abbrev cX5_parse : ByteArray := prog_7_method_2_code
def yX5_parse : MethodName := ⟨RX5, "parse", "(LBlastPlanner$Site;)Z"⟩
abbrev cX5_parseLine : ByteArray := prog_7_method_3_code
def yX5_parseLine : MethodName := ⟨RX5, "parseLine", "(LBlastPlanner$Site;)V"⟩
abbrev cX5_parseSetting : ByteArray := prog_7_method_4_code
def yX5_parseSetting : MethodName := ⟨RX5, "parseSetting", "(LBlastPlanner$Site;)V"⟩
abbrev cX5_parseWind : ByteArray := prog_7_method_5_code
def yX5_parseWind : MethodName := ⟨RX5, "parseWind", "(LBlastPlanner$Site;)V"⟩
abbrev cX5_parseNeighbour : ByteArray := prog_7_method_6_code
def yX5_parseNeighbour : MethodName := ⟨RX5, "parseNeighbour", "(LBlastPlanner$Site;I)V"⟩
abbrev cX5_parseWindow : ByteArray := prog_7_method_7_code
def yX5_parseWindow : MethodName := ⟨RX5, "parseWindow", "(LBlastPlanner$Neighbour;)V"⟩
abbrev cX5_parseRoad : ByteArray := prog_7_method_8_code
def yX5_parseRoad : MethodName := ⟨RX5, "parseRoad", "(LBlastPlanner$Site;I)V"⟩
abbrev cX5_parseBlast : ByteArray := prog_7_method_9_code
def yX5_parseBlast : MethodName := ⟨RX5, "parseBlast", "(LBlastPlanner$Site;I)V"⟩
abbrev cX5_parseCharge : ByteArray := prog_7_method_10_code
def yX5_parseCharge : MethodName := ⟨RX5, "parseCharge", "(LBlastPlanner$Blast;)V"⟩
def RX6 : String := "BlastPlanner$PlanSearch"
def TX6 : u_T := fun k => match k with
  | 0 => ("BlastPlanner$PlanSearch", "open", "[I", true)
  | 1 => ("BlastPlanner$PlanSearch", "trial", "[I", true)
  | 2 => ("BlastPlanner$PlanSearch", "bestTimes", "[I", true)
  | 3 => ("BlastPlanner$PlanSearch", "openTotal", "I", false)
  | 4 => ("BlastPlanner$PlanSearch", "bestLength", "I", false)
  | _ => ("BlastPlanner$PlanSearch", "known", "Z", false)
def tyX6 : Nat → FieldType := fun k => match k with
  | 0 => .array .int
  | 1 => .array .int
  | 2 => .array .int
  | 3 => .int
  | 4 => .int
  | _ => .boolean
abbrev wsX60 : List Cond := u_ws RX6 TX6 6
theorem nmX6 : ∀ a, a < 6 → ∀ b, b < 6 → a ≠ b → (TX6 a).2.1 ≠ (TX6 b).2.1 := by decide +kernel
theorem tyX6_ok : ∀ k, k < 6 → parseFieldDescriptor (TX6 k).2.2.1 = some (tyX6 k) := by decide +kernel
abbrev cX6_init : ByteArray := prog_8_method_1_code
def yX6_init : MethodName := ⟨RX6, "<init>", "()V"⟩
abbrev cX6_forget : ByteArray := prog_8_method_2_code
def yX6_forget : MethodName := ⟨RX6, "forget", "()V"⟩
abbrev cX6_search : ByteArray := prog_8_method_3_code
def yX6_search : MethodName := ⟨RX6, "search", "(LBlastPlanner$Site;I)V"⟩
abbrev cX6_place : ByteArray := prog_8_method_4_code
def yX6_place : MethodName := ⟨RX6, "place", "(LBlastPlanner$PlanSearch;LBlastPlanner$Site;II)V"⟩
abbrev cX6_keep : ByteArray := prog_8_method_5_code
def yX6_keep : MethodName := ⟨RX6, "keep", "(LBlastPlanner$Site;I)V"⟩
abbrev cX6_newlyClosed : ByteArray := prog_8_method_6_code
def yX6_newlyClosed : MethodName := ⟨RX6, "newlyClosed", "(LBlastPlanner$Site;II)I"⟩
abbrev cX6_newlyClosedOf : ByteArray := prog_8_method_7_code
def yX6_newlyClosedOf : MethodName := ⟨RX6, "newlyClosedOf", "(LBlastPlanner$Site;II)I"⟩
def RX7 : String := "BlastPlanner$Road"
def TX7 : u_T := fun k => match k with
  | 0 => ("BlastPlanner$Road", "x1", "I", false)
  | 1 => ("BlastPlanner$Road", "y1", "I", false)
  | 2 => ("BlastPlanner$Road", "x2", "I", false)
  | _ => ("BlastPlanner$Road", "y2", "I", false)
def tyX7 : Nat → FieldType := fun k => match k with
  | 0 => .int
  | 1 => .int
  | 2 => .int
  | _ => .int
abbrev wsX70 : List Cond := u_ws RX7 TX7 4
theorem nmX7 : ∀ a, a < 4 → ∀ b, b < 4 → a ≠ b → (TX7 a).2.1 ≠ (TX7 b).2.1 := by decide +kernel
theorem tyX7_ok : ∀ k, k < 4 → parseFieldDescriptor (TX7 k).2.2.1 = some (tyX7 k) := by decide +kernel
abbrev cX7_init : ByteArray := prog_9_method_1_code
def yX7_init : MethodName := ⟨RX7, "<init>", "()V"⟩
abbrev cX7_comesWithin : ByteArray := prog_9_method_2_code
def yX7_comesWithin : MethodName := ⟨RX7, "comesWithin", "(III)Z"⟩
def RX8 : String := "BlastPlanner$SirenList"
def TX8 : u_T := fun k => match k with
  | 0 => ("BlastPlanner$SirenList", "keys", "[I", true)
  | _ => ("BlastPlanner$SirenList", "total", "I", false)
def tyX8 : Nat → FieldType := fun k => match k with
  | 0 => .array .int
  | _ => .int
abbrev wsX80 : List Cond := u_ws RX8 TX8 2
theorem nmX8 : ∀ a, a < 2 → ∀ b, b < 2 → a ≠ b → (TX8 a).2.1 ≠ (TX8 b).2.1 := by decide +kernel
theorem tyX8_ok : ∀ k, k < 2 → parseFieldDescriptor (TX8 k).2.2.1 = some (tyX8 k) := by decide +kernel
abbrev cX8_init : ByteArray := prog_10_method_1_code
def yX8_init : MethodName := ⟨RX8, "<init>", "()V"⟩
abbrev cX8_gather : ByteArray := prog_10_method_2_code
def yX8_gather : MethodName := ⟨RX8, "gather", "(LBlastPlanner$Site;)V"⟩
abbrev cX8_insert : ByteArray := prog_10_method_3_code
def yX8_insert : MethodName := ⟨RX8, "insert", "(III)V"⟩
abbrev cX8_minuteOf : ByteArray := prog_10_method_4_code
def yX8_minuteOf : MethodName := ⟨RX8, "minuteOf", "(I)I"⟩
abbrev cX8_kindOf : ByteArray := prog_10_method_5_code
def yX8_kindOf : MethodName := ⟨RX8, "kindOf", "(I)I"⟩
abbrev cX8_blastOf : ByteArray := prog_10_method_6_code
def yX8_blastOf : MethodName := ⟨RX8, "blastOf", "(I)I"⟩
def RX9 : String := "BlastPlanner$Site"
def TX9 : u_T := fun k => match k with
  | 0 => ("BlastPlanner$Site", "neighbours", "[LBlastPlanner$Neighbour;", true)
  | 1 => ("BlastPlanner$Site", "roads", "[LBlastPlanner$Road;", true)
  | 2 => ("BlastPlanner$Site", "blasts", "[LBlastPlanner$Blast;", true)
  | 3 => ("BlastPlanner$Site", "neighbourNames", "[I", true)
  | 4 => ("BlastPlanner$Site", "roadNames", "[I", true)
  | 5 => ("BlastPlanner$Site", "blastNames", "[I", true)
  | 6 => ("BlastPlanner$Site", "times", "[I", true)
  | 7 => ("BlastPlanner$Site", "windDirections", "[I", true)
  | 8 => ("BlastPlanner$Site", "windSpeeds", "[I", true)
  | 9 => ("BlastPlanner$Site", "neighbourTotal", "I", false)
  | 10 => ("BlastPlanner$Site", "roadTotal", "I", false)
  | 11 => ("BlastPlanner$Site", "blastTotal", "I", false)
  | 12 => ("BlastPlanner$Site", "dayFirst", "I", false)
  | 13 => ("BlastPlanner$Site", "dayLast", "I", false)
  | 14 => ("BlastPlanner$Site", "step", "I", false)
  | 15 => ("BlastPlanner$Site", "before", "I", false)
  | 16 => ("BlastPlanner$Site", "after", "I", false)
  | _ => ("BlastPlanner$Site", "spacing", "I", false)
def tyX9 : Nat → FieldType := fun k => match k with
  | 0 => .array (.object "BlastPlanner$Neighbour")
  | 1 => .array (.object "BlastPlanner$Road")
  | 2 => .array (.object "BlastPlanner$Blast")
  | 3 => .array .int
  | 4 => .array .int
  | 5 => .array .int
  | 6 => .array .int
  | 7 => .array .int
  | 8 => .array .int
  | 9 => .int
  | 10 => .int
  | 11 => .int
  | 12 => .int
  | 13 => .int
  | 14 => .int
  | 15 => .int
  | 16 => .int
  | _ => .int
abbrev wsX90 : List Cond := u_ws RX9 TX9 18
theorem nmX9 : ∀ a, a < 18 → ∀ b, b < 18 → a ≠ b → (TX9 a).2.1 ≠ (TX9 b).2.1 := by decide +kernel
theorem tyX9_ok : ∀ k, k < 18 → parseFieldDescriptor (TX9 k).2.2.1 = some (tyX9 k) := by decide +kernel
abbrev cX9_init : ByteArray := prog_11_method_1_code
def yX9_init : MethodName := ⟨RX9, "<init>", "()V"⟩
abbrev cX9_reset : ByteArray := prog_11_method_2_code
def yX9_reset : MethodName := ⟨RX9, "reset", "()V"⟩
abbrev cX9_survey : ByteArray := prog_11_method_3_code
def yX9_survey : MethodName := ⟨RX9, "survey", "()V"⟩
abbrev cX9_measureNeighbours : ByteArray := prog_11_method_4_code
def yX9_measureNeighbours : MethodName := ⟨RX9, "measureNeighbours", "(LBlastPlanner$Blast;)V"⟩
abbrev cX9_measureRoads : ByteArray := prog_11_method_5_code
def yX9_measureRoads : MethodName := ⟨RX9, "measureRoads", "(LBlastPlanner$Blast;)V"⟩
abbrev cX9_neighboursInDust : ByteArray := prog_11_method_6_code
def yX9_neighboursInDust : MethodName := ⟨RX9, "neighboursInDust", "(LBlastPlanner$Blast;I)I"⟩
abbrev cX9_weigh : ByteArray := prog_11_method_7_code
def yX9_weigh : MethodName := ⟨RX9, "weigh", "(LBlastPlanner$Blast;)V"⟩
abbrev cX9_startTotal : ByteArray := prog_11_method_8_code
def yX9_startTotal : MethodName := ⟨RX9, "startTotal", "()I"⟩
abbrev cX9_startAt : ByteArray := prog_11_method_9_code
def yX9_startAt : MethodName := ⟨RX9, "startAt", "(I)I"⟩
abbrev cX9_openTotal : ByteArray := prog_11_method_10_code
def yX9_openTotal : MethodName := ⟨RX9, "openTotal", "()I"⟩
abbrev cX9_reasonAgainst : ByteArray := prog_11_method_11_code
def yX9_reasonAgainst : MethodName := ⟨RX9, "reasonAgainst", "(II[I)I"⟩
abbrev cX9_quietFor : ByteArray := prog_11_method_12_code
def yX9_quietFor : MethodName := ⟨RX9, "quietFor", "(LBlastPlanner$Blast;I)Z"⟩
abbrev cX9_crowded : ByteArray := prog_11_method_13_code
def yX9_crowded : MethodName := ⟨RX9, "crowded", "(II[I)Z"⟩
abbrev cX9_firstScheduled : ByteArray := prog_11_method_14_code
def yX9_firstScheduled : MethodName := ⟨RX9, "firstScheduled", "(I)I"⟩
abbrev cX9_closingFirst : ByteArray := prog_11_method_15_code
def yX9_closingFirst : MethodName := ⟨RX9, "closingFirst", "(I)I"⟩
abbrev cX9_closingEnd : ByteArray := prog_11_method_16_code
def yX9_closingEnd : MethodName := ⟨RX9, "closingEnd", "(I)I"⟩
abbrev cX9_collectClosed : ByteArray := prog_11_method_17_code
def yX9_collectClosed : MethodName := ⟨RX9, "collectClosed", "(ILBlastPlanner$MinuteSet;)V"⟩
abbrev cX9_closedTotal : ByteArray := prog_11_method_18_code
def yX9_closedTotal : MethodName := ⟨RX9, "closedTotal", "(LBlastPlanner$MinuteSet;)I"⟩
def RX10 : String := "BlastPlanner$Tokens"
def TX10 : u_T := fun k => match k with
  | 0 => ("BlastPlanner$Tokens", "bytes", "[B", true)
  | 1 => ("BlastPlanner$Tokens", "length", "I", false)
  | 2 => ("BlastPlanner$Tokens", "position", "I", false)
  | 3 => ("BlastPlanner$Tokens", "wrongOffset", "I", false)
  | _ => ("BlastPlanner$Tokens", "wrongKind", "I", false)
def tyX10 : Nat → FieldType := fun k => match k with
  | 0 => .array .byte
  | 1 => .int
  | 2 => .int
  | 3 => .int
  | _ => .int
abbrev wsX100 : List Cond := u_ws RX10 TX10 5
theorem nmX10 : ∀ a, a < 5 → ∀ b, b < 5 → a ≠ b → (TX10 a).2.1 ≠ (TX10 b).2.1 := by decide +kernel
theorem tyX10_ok : ∀ k, k < 5 → parseFieldDescriptor (TX10 k).2.2.1 = some (tyX10 k) := by decide +kernel
abbrev cX10_init : ByteArray := prog_12_method_1_code
def yX10_init : MethodName := ⟨RX10, "<init>", "()V"⟩
abbrev cX10_hasRoom : ByteArray := prog_12_method_2_code
def yX10_hasRoom : MethodName := ⟨RX10, "hasRoom", "(I)Z"⟩
abbrev cX10_addWord : ByteArray := prog_12_method_3_code
def yX10_addWord : MethodName := ⟨RX10, "addWord", "(I)V"⟩
abbrev cX10_begin : ByteArray := prog_12_method_4_code
def yX10_begin : MethodName := ⟨RX10, "begin", "()V"⟩
abbrev cX10_failed : ByteArray := prog_12_method_5_code
def yX10_failed : MethodName := ⟨RX10, "failed", "()Z"⟩
abbrev cX10_fail : ByteArray := prog_12_method_6_code
def yX10_fail : MethodName := ⟨RX10, "fail", "(II)V"⟩
abbrev cX10_skipSpaces : ByteArray := prog_12_method_7_code
def yX10_skipSpaces : MethodName := ⟨RX10, "skipSpaces", "()V"⟩
abbrev cX10_endOfRun : ByteArray := prog_12_method_8_code
def yX10_endOfRun : MethodName := ⟨RX10, "endOfRun", "(CC)I"⟩
abbrev cX10_atEnd : ByteArray := prog_12_method_9_code
def yX10_atEnd : MethodName := ⟨RX10, "atEnd", "()Z"⟩
abbrev cX10_numberFollows : ByteArray := prog_12_method_10_code
def yX10_numberFollows : MethodName := ⟨RX10, "numberFollows", "()Z"⟩
abbrev cX10_need : ByteArray := prog_12_method_11_code
def yX10_need : MethodName := ⟨RX10, "need", "(Z)V"⟩
abbrev cX10_tookSemicolon : ByteArray := prog_12_method_12_code
def yX10_tookSemicolon : MethodName := ⟨RX10, "tookSemicolon", "()Z"⟩
abbrev cX10_tookWord : ByteArray := prog_12_method_13_code
def yX10_tookWord : MethodName := ⟨RX10, "tookWord", "(Ljava/lang/String;)Z"⟩
abbrev cX10_takeName : ByteArray := prog_12_method_14_code
def yX10_takeName : MethodName := ⟨RX10, "takeName", "([II)I"⟩
abbrev cX10_nameUpTo : ByteArray := prog_12_method_15_code
def yX10_nameUpTo : MethodName := ⟨RX10, "nameUpTo", "(I)I"⟩
abbrev cX10_takeNumber : ByteArray := prog_12_method_16_code
def yX10_takeNumber : MethodName := ⟨RX10, "takeNumber", "(II)I"⟩
abbrev cX10_valueUpTo : ByteArray := prog_12_method_17_code
def yX10_valueUpTo : MethodName := ⟨RX10, "valueUpTo", "(I)I"⟩
def RX11 : String := "BlastPlanner"
def TX11 : u_T := fun k => match k with
  | 0 => ("BlastPlanner", "parser", "LBlastPlanner$Parser;", true)
  | 1 => ("BlastPlanner", "history", "LBlastPlanner$History;", true)
  | 2 => ("BlastPlanner", "plan", "LBlastPlanner$PlanSearch;", true)
  | 3 => ("BlastPlanner", "sirens", "LBlastPlanner$SirenList;", true)
  | 4 => ("BlastPlanner", "formatted", "LBlastPlanner$FormattedText;", true)
  | 5 => ("BlastPlanner", "minutes", "LBlastPlanner$MinuteSet;", true)
  | 6 => ("BlastPlanner", "otherMinutes", "LBlastPlanner$MinuteSet;", true)
  | 7 => ("BlastPlanner", "hourSums", "[I", true)
  | 8 => ("BlastPlanner", "site", "LBlastPlanner$Site;", false)
  | _ => ("BlastPlanner", "draft", "LBlastPlanner$Site;", false)
def tyX11 : Nat → FieldType := fun k => match k with
  | 0 => .object "BlastPlanner$Parser"
  | 1 => .object "BlastPlanner$History"
  | 2 => .object "BlastPlanner$PlanSearch"
  | 3 => .object "BlastPlanner$SirenList"
  | 4 => .object "BlastPlanner$FormattedText"
  | 5 => .object "BlastPlanner$MinuteSet"
  | 6 => .object "BlastPlanner$MinuteSet"
  | 7 => .array .int
  | 8 => .object "BlastPlanner$Site"
  | _ => .object "BlastPlanner$Site"
abbrev wsX110 : List Cond := u_ws RX11 TX11 10
theorem nmX11 : ∀ a, a < 10 → ∀ b, b < 10 → a ≠ b → (TX11 a).2.1 ≠ (TX11 b).2.1 := by decide +kernel
theorem tyX11_ok : ∀ k, k < 10 → parseFieldDescriptor (TX11 k).2.2.1 = some (tyX11 k) := by decide +kernel
abbrev cX11_init : ByteArray := prog_1_method_1_code
def yX11_init : MethodName := ⟨RX11, "<init>", "()V"⟩
abbrev cX11_append : ByteArray := prog_1_method_2_code
def yX11_append : MethodName := ⟨RX11, "append", "(IIIII)I"⟩
abbrev cX11_truncate : ByteArray := prog_1_method_3_code
def yX11_truncate : MethodName := ⟨RX11, "truncate", "(I)Z"⟩
abbrev cX11_load : ByteArray := prog_1_method_4_code
def yX11_load : MethodName := ⟨RX11, "load", "()I"⟩
abbrev cX11_errorKind : ByteArray := prog_1_method_6_code
def yX11_errorKind : MethodName := ⟨RX11, "errorKind", "()I"⟩
abbrev cX11_windowSize : ByteArray := prog_1_method_16_code
def yX11_windowSize : MethodName := ⟨RX11, "windowSize", "(I)I"⟩
abbrev cX11_windowStart : ByteArray := prog_1_method_17_code
def yX11_windowStart : MethodName := ⟨RX11, "windowStart", "(I)I"⟩
abbrev cX11_vibration : ByteArray := prog_1_method_18_code
def yX11_vibration : MethodName := ⟨RX11, "vibration", "(II)I"⟩
abbrev cX11_neededGap : ByteArray := prog_1_method_21_code
def yX11_neededGap : MethodName := ⟨RX11, "neededGap", "(II)I"⟩
abbrev cX11_vibrationIfGap : ByteArray := prog_1_method_22_code
def yX11_vibrationIfGap : MethodName := ⟨RX11, "vibrationIfGap", "(III)I"⟩
abbrev cX11_closes : ByteArray := prog_1_method_23_code
def yX11_closes : MethodName := ⟨RX11, "closes", "(II)Z"⟩
abbrev cX11_isQuiet : ByteArray := prog_1_method_25_code
def yX11_isQuiet : MethodName := ⟨RX11, "isQuiet", "(II)Z"⟩
abbrev cX11_dustAt : ByteArray := prog_1_method_26_code
def yX11_dustAt : MethodName := ⟨RX11, "dustAt", "(II)I"⟩
abbrev cX11_neededRadius : ByteArray := prog_1_method_27_code
def yX11_neededRadius : MethodName := ⟨RX11, "neededRadius", "(II)I"⟩
abbrev cX11_timeOf : ByteArray := prog_1_method_30_code
def yX11_timeOf : MethodName := ⟨RX11, "timeOf", "(I)I"⟩
abbrev cX11_isFired : ByteArray := prog_1_method_31_code
def yX11_isFired : MethodName := ⟨RX11, "isFired", "(I)Z"⟩
abbrev cX11_reason : ByteArray := prog_1_method_32_code
def yX11_reason : MethodName := ⟨RX11, "reason", "(II)I"⟩
abbrev cX11_earliest : ByteArray := prog_1_method_33_code
def yX11_earliest : MethodName := ⟨RX11, "earliest", "(II)I"⟩
abbrev cX11_latest : ByteArray := prog_1_method_34_code
def yX11_latest : MethodName := ⟨RX11, "latest", "(II)I"⟩
abbrev cX11_allowedCount : ByteArray := prog_1_method_37_code
def yX11_allowedCount : MethodName := ⟨RX11, "allowedCount", "(I)I"⟩
abbrev cX11_schedule : ByteArray := prog_1_method_39_code
def yX11_schedule : MethodName := ⟨RX11, "schedule", "(II)I"⟩
abbrev cX11_cancel : ByteArray := prog_1_method_40_code
def yX11_cancel : MethodName := ⟨RX11, "cancel", "(I)I"⟩
abbrev cX11_fire : ByteArray := prog_1_method_41_code
def yX11_fire : MethodName := ⟨RX11, "fire", "(I)I"⟩
abbrev cX11_retime : ByteArray := prog_1_method_42_code
def yX11_retime : MethodName := ⟨RX11, "retime", "(II)I"⟩
abbrev cX11_closedMinutes : ByteArray := prog_1_method_43_code
def yX11_closedMinutes : MethodName := ⟨RX11, "closedMinutes", "(I)I"⟩
abbrev cX11_isClosed : ByteArray := prog_1_method_45_code
def yX11_isClosed : MethodName := ⟨RX11, "isClosed", "(II)Z"⟩
abbrev cX11_closures : ByteArray := prog_1_method_46_code
def yX11_closures : MethodName := ⟨RX11, "closures", "(I)I"⟩
abbrev cX11_closureStart : ByteArray := prog_1_method_47_code
def yX11_closureStart : MethodName := ⟨RX11, "closureStart", "(II)I"⟩
abbrev cX11_closureLength : ByteArray := prog_1_method_48_code
def yX11_closureLength : MethodName := ⟨RX11, "closureLength", "(II)I"⟩
abbrev cX11_openMinutes : ByteArray := prog_1_method_49_code
def yX11_openMinutes : MethodName := ⟨RX11, "openMinutes", "(III)I"⟩
abbrev cX11_sirenMinute : ByteArray := prog_1_method_53_code
def yX11_sirenMinute : MethodName := ⟨RX11, "sirenMinute", "(I)I"⟩
abbrev cX11_sirenKind : ByteArray := prog_1_method_54_code
def yX11_sirenKind : MethodName := ⟨RX11, "sirenKind", "(I)I"⟩
abbrev cX11_sirenBlast : ByteArray := prog_1_method_55_code
def yX11_sirenBlast : MethodName := ⟨RX11, "sirenBlast", "(I)I"⟩
abbrev cX11_planLength : ByteArray := prog_1_method_56_code
def yX11_planLength : MethodName := ⟨RX11, "planLength", "()I"⟩
abbrev cX11_planTime : ByteArray := prog_1_method_57_code
def yX11_planTime : MethodName := ⟨RX11, "planTime", "(I)I"⟩
abbrev cX11_applyPlan : ByteArray := prog_1_method_58_code
def yX11_applyPlan : MethodName := ⟨RX11, "applyPlan", "()I"⟩
abbrev cX11_needBlast : ByteArray := prog_1_method_63_code
def yX11_needBlast : MethodName := ⟨RX11, "needBlast", "(I)V"⟩
abbrev cX11_blastAt : ByteArray := prog_1_method_64_code
def yX11_blastAt : MethodName := ⟨RX11, "blastAt", "(I)LBlastPlanner$Blast;"⟩
abbrev cX11_neighbourAt : ByteArray := prog_1_method_65_code
def yX11_neighbourAt : MethodName := ⟨RX11, "neighbourAt", "(I)LBlastPlanner$Neighbour;"⟩
abbrev cX11_roadAt : ByteArray := prog_1_method_66_code
def yX11_roadAt : MethodName := ⟨RX11, "roadAt", "(I)LBlastPlanner$Road;"⟩
abbrev cX11_needRange : ByteArray := prog_1_method_68_code
def yX11_needRange : MethodName := ⟨RX11, "needRange", "(III)V"⟩
abbrev cX11_needScheduled : ByteArray := prog_1_method_69_code
def yX11_needScheduled : MethodName := ⟨RX11, "needScheduled", "(I)V"⟩
abbrev cX11_sirenAt : ByteArray := prog_1_method_70_code
def yX11_sirenAt : MethodName := ⟨RX11, "sirenAt", "(I)I"⟩
abbrev cX11_isAllowed : ByteArray := prog_1_method_71_code
def yX11_isAllowed : MethodName := ⟨RX11, "isAllowed", "(II)Z"⟩
abbrev cX11_startsWithReason : ByteArray := prog_1_method_72_code
def yX11_startsWithReason : MethodName := ⟨RX11, "startsWithReason", "(II)I"⟩
abbrev cX11_recordAction : ByteArray := prog_1_method_73_code
def yX11_recordAction : MethodName := ⟨RX11, "recordAction", "()V"⟩
abbrev cX11_findPlan : ByteArray := prog_1_method_75_code
def yX11_findPlan : MethodName := ⟨RX11, "findPlan", "()V"⟩
abbrev cX11_squareSum : ByteArray := prog_1_method_76_code
def yX11_squareSum : MethodName := ⟨RX11, "squareSum", "(II)I"⟩
abbrev cX11_quotient : ByteArray := prog_1_method_77_code
def yX11_quotient : MethodName := ⟨RX11, "quotient", "(II)I"⟩
def RX12 : String := "BlastPlannerLaw$Drawn"
def TX12 : u_T := fun k => match k with
  | 0 => ("BlastPlannerLaw$Drawn", "near", "I", true)
  | 1 => ("BlastPlannerLaw$Drawn", "roads", "I", true)
  | 2 => ("BlastPlannerLaw$Drawn", "blasts", "I", true)
  | 3 => ("BlastPlannerLaw$Drawn", "first", "I", true)
  | 4 => ("BlastPlannerLaw$Drawn", "last", "I", true)
  | 5 => ("BlastPlannerLaw$Drawn", "step", "I", true)
  | 6 => ("BlastPlannerLaw$Drawn", "before", "I", true)
  | 7 => ("BlastPlannerLaw$Drawn", "after", "I", true)
  | 8 => ("BlastPlannerLaw$Drawn", "spacing", "I", true)
  | 9 => ("BlastPlannerLaw$Drawn", "nearX", "[I", true)
  | 10 => ("BlastPlannerLaw$Drawn", "nearY", "[I", true)
  | 11 => ("BlastPlannerLaw$Drawn", "limit", "[I", true)
  | 12 => ("BlastPlannerLaw$Drawn", "quietFrom", "[I", true)
  | 13 => ("BlastPlannerLaw$Drawn", "quietTo", "[I", true)
  | 14 => ("BlastPlannerLaw$Drawn", "roadX", "[I", true)
  | 15 => ("BlastPlannerLaw$Drawn", "roadY", "[I", true)
  | 16 => ("BlastPlannerLaw$Drawn", "roadX2", "[I", true)
  | 17 => ("BlastPlannerLaw$Drawn", "roadY2", "[I", true)
  | 18 => ("BlastPlannerLaw$Drawn", "x", "[I", true)
  | 19 => ("BlastPlannerLaw$Drawn", "y", "[I", true)
  | 20 => ("BlastPlannerLaw$Drawn", "radius", "[I", true)
  | 21 => ("BlastPlannerLaw$Drawn", "charges", "[I", true)
  | 22 => ("BlastPlannerLaw$Drawn", "wind", "[I", true)
  | 23 => ("BlastPlannerLaw$Drawn", "speed", "[I", true)
  | 24 => ("BlastPlannerLaw$Drawn", "size", "[[I", true)
  | 25 => ("BlastPlannerLaw$Drawn", "delay", "[[I", true)
  | _ => ("BlastPlannerLaw$Drawn", "text", "Ljava/lang/String;", false)
def tyX12 : Nat → FieldType := fun k => match k with
  | 0 => .int
  | 1 => .int
  | 2 => .int
  | 3 => .int
  | 4 => .int
  | 5 => .int
  | 6 => .int
  | 7 => .int
  | 8 => .int
  | 9 => .array .int
  | 10 => .array .int
  | 11 => .array .int
  | 12 => .array .int
  | 13 => .array .int
  | 14 => .array .int
  | 15 => .array .int
  | 16 => .array .int
  | 17 => .array .int
  | 18 => .array .int
  | 19 => .array .int
  | 20 => .array .int
  | 21 => .array .int
  | 22 => .array .int
  | 23 => .array .int
  | 24 => .array (.array .int)
  | 25 => .array (.array .int)
  | _ => .object "java/lang/String"
abbrev wsX120 : List Cond := u_ws RX12 TX12 27
theorem nmX12 : ∀ a, a < 27 → ∀ b, b < 27 → a ≠ b → (TX12 a).2.1 ≠ (TX12 b).2.1 := by decide +kernel
theorem tyX12_ok : ∀ k, k < 27 → parseFieldDescriptor (TX12 k).2.2.1 = some (tyX12 k) := by decide +kernel
abbrev cX12_init : ByteArray := prog_14_method_1_code
def yX12_init : MethodName := ⟨RX12, "<init>", "(LBlastPlannerLaw$Draws;)V"⟩
abbrev cX12_neighbour : ByteArray := prog_14_method_2_code
def yX12_neighbour : MethodName := ⟨RX12, "neighbour", "(LBlastPlannerLaw$Draws;I)V"⟩
abbrev cX12_blast : ByteArray := prog_14_method_3_code
def yX12_blast : MethodName := ⟨RX12, "blast", "(LBlastPlannerLaw$Draws;I)V"⟩
abbrev cX12_window : ByteArray := prog_14_method_4_code
def yX12_window : MethodName := ⟨RX12, "window", "(II)I"⟩
abbrev cX12_far : ByteArray := prog_14_method_5_code
def yX12_far : MethodName := ⟨RX12, "far", "(II)I"⟩
abbrev cX12_comes : ByteArray := prog_14_method_6_code
def yX12_comes : MethodName := ⟨RX12, "comes", "(III)Z"⟩
abbrev cX12_isQuiet : ByteArray := prog_14_method_7_code
def yX12_isQuiet : MethodName := ⟨RX12, "isQuiet", "(II)Z"⟩
abbrev cX12_isDusty : ByteArray := prog_14_method_8_code
def yX12_isDusty : MethodName := ⟨RX12, "isDusty", "(III)Z"⟩
abbrev cX12_reason : ByteArray := prog_14_method_9_code
def yX12_reason : MethodName := ⟨RX12, "reason", "(II)I"⟩
def RX13 : String := "BlastPlannerLaw$Draws"
def TX13 : u_T := fun k => match k with
  | _ => ("BlastPlannerLaw$Draws", "seed", "I", false)
def tyX13 : Nat → FieldType := fun k => match k with
  | _ => .int
abbrev wsX130 : List Cond := u_ws RX13 TX13 1
theorem nmX13 : ∀ a, a < 1 → ∀ b, b < 1 → a ≠ b → (TX13 a).2.1 ≠ (TX13 b).2.1 := by decide +kernel
theorem tyX13_ok : ∀ k, k < 1 → parseFieldDescriptor (TX13 k).2.2.1 = some (tyX13 k) := by decide +kernel
abbrev cX13_init : ByteArray := prog_15_method_1_code
def yX13_init : MethodName := ⟨RX13, "<init>", "(I)V"⟩
abbrev cX13_next : ByteArray := prog_15_method_2_code
def yX13_next : MethodName := ⟨RX13, "next", "(I)I"⟩
def RX14 : String := "BlastPlannerModel"
def TX14 : u_T := fun k => match k with
  | _ => ("", "", "", false)
def tyX14 : Nat → FieldType := fun k => match k with
  | _ => .int
abbrev wsX140 : List Cond := u_ws RX14 TX14 0
theorem nmX14 : ∀ a, a < 0 → ∀ b, b < 0 → a ≠ b → (TX14 a).2.1 ≠ (TX14 b).2.1 := by decide +kernel
theorem tyX14_ok : ∀ k, k < 0 → parseFieldDescriptor (TX14 k).2.2.1 = some (tyX14 k) := by decide +kernel
def RJx145de : String := "java/io/Serializable"
def TJx145de : u_T := fun k => match k with
  | _ => ("", "", "", false)
def tyJx145de : Nat → FieldType := fun k => match k with
  | _ => .int
abbrev wsJx145de0 : List Cond := u_ws RJx145de TJx145de 0
theorem nmJx145de : ∀ a, a < 0 → ∀ b, b < 0 → a ≠ b → (TJx145de a).2.1 ≠ (TJx145de b).2.1 := by decide +kernel
theorem tyJx145de_ok : ∀ k, k < 0 → parseFieldDescriptor (TJx145de k).2.2.1 = some (tyJx145de k) := by decide +kernel
def RJ5 : String := "java/lang/AbstractStringBuilder"
def TJ5 : u_T := fun k => match k with
  | _ => ("", "", "", false)
def tyJ5 : Nat → FieldType := fun k => match k with
  | _ => .int
abbrev wsJ50 : List Cond := u_ws RJ5 TJ5 0
theorem nmJ5 : ∀ a, a < 0 → ∀ b, b < 0 → a ≠ b → (TJ5 a).2.1 ≠ (TJ5 b).2.1 := by decide +kernel
theorem tyJ5_ok : ∀ k, k < 0 → parseFieldDescriptor (TJ5 k).2.2.1 = some (tyJ5 k) := by decide +kernel
abbrev cJ5_init_d00df : ByteArray := prog_17_method_2_code
def yJ5_init_d00df : MethodName := ⟨RJ5, "<init>", "(I)V"⟩
abbrev cJ5_length_8abf5 : ByteArray := prog_17_method_6_code
def yJ5_length_8abf5 : MethodName := ⟨RJ5, "length", "()I"⟩
abbrev cJ5_ensureCapacityInternal_d00df : ByteArray := prog_17_method_9_code
def yJ5_ensureCapacityInternal_d00df : MethodName := ⟨RJ5, "ensureCapacityInternal", "(I)V"⟩
abbrev cJ5_newCapacity_0f7a4 : ByteArray := prog_17_method_10_code
def yJ5_newCapacity_0f7a4 : MethodName := ⟨RJ5, "newCapacity", "(I)I"⟩
abbrev cJ5_inflate_da8c8 : ByteArray := prog_17_method_11_code
def yJ5_inflate_da8c8 : MethodName := ⟨RJ5, "inflate", "()V"⟩
abbrev cJ5_append_cf1ce : ByteArray := prog_17_method_22_code
def yJ5_append_cf1ce : MethodName := ⟨RJ5, "append", "(Ljava/lang/String;)Ljava/lang/AbstractStringBuilder;"⟩
abbrev cJ5_appendNull_278bc : ByteArray := prog_17_method_26_code
def yJ5_appendNull_278bc : MethodName := ⟨RJ5, "appendNull", "()Ljava/lang/AbstractStringBuilder;"⟩
abbrev cJ5_append_3fe6f : ByteArray := prog_17_method_31_code
def yJ5_append_3fe6f : MethodName := ⟨RJ5, "append", "(C)Ljava/lang/AbstractStringBuilder;"⟩
abbrev cJ5_append_c97b9 : ByteArray := prog_17_method_32_code
def yJ5_append_c97b9 : MethodName := ⟨RJ5, "append", "(I)Ljava/lang/AbstractStringBuilder;"⟩
abbrev cJ5_getValue_6d5f1 : ByteArray := prog_17_method_64_code
def yJ5_getValue_6d5f1 : MethodName := ⟨RJ5, "getValue", "()[B"⟩
abbrev cJ5_isLatin1_aae02 : ByteArray := prog_17_method_68_code
def yJ5_isLatin1_aae02 : MethodName := ⟨RJ5, "isLatin1", "()Z"⟩
abbrev cJ5_inflateIfNeededFor_a7421 : ByteArray := prog_17_method_71_code
def yJ5_inflateIfNeededFor_a7421 : MethodName := ⟨RJ5, "inflateIfNeededFor", "(Ljava/lang/String;)V"⟩
abbrev cJ5_putStringAt_47b60 : ByteArray := prog_17_method_73_code
def yJ5_putStringAt_47b60 : MethodName := ⟨RJ5, "putStringAt", "(ILjava/lang/String;)V"⟩
def RJx2cfe8 : String := "java/lang/Appendable"
def TJx2cfe8 : u_T := fun k => match k with
  | _ => ("", "", "", false)
def tyJx2cfe8 : Nat → FieldType := fun k => match k with
  | _ => .int
abbrev wsJx2cfe80 : List Cond := u_ws RJx2cfe8 TJx2cfe8 0
theorem nmJx2cfe8 : ∀ a, a < 0 → ∀ b, b < 0 → a ≠ b → (TJx2cfe8 a).2.1 ≠ (TJx2cfe8 b).2.1 := by decide +kernel
theorem tyJx2cfe8_ok : ∀ k, k < 0 → parseFieldDescriptor (TJx2cfe8 k).2.2.1 = some (tyJx2cfe8 k) := by decide +kernel
def RJx9f9b0 : String := "java/lang/CharSequence"
def TJx9f9b0 : u_T := fun k => match k with
  | _ => ("", "", "", false)
def tyJx9f9b0 : Nat → FieldType := fun k => match k with
  | _ => .int
abbrev wsJx9f9b00 : List Cond := u_ws RJx9f9b0 TJx9f9b0 0
theorem nmJx9f9b0 : ∀ a, a < 0 → ∀ b, b < 0 → a ≠ b → (TJx9f9b0 a).2.1 ≠ (TJx9f9b0 b).2.1 := by decide +kernel
theorem tyJx9f9b0_ok : ∀ k, k < 0 → parseFieldDescriptor (TJx9f9b0 k).2.2.1 = some (tyJx9f9b0 k) := by decide +kernel
def RJx8e188 : String := "java/lang/Cloneable"
def TJx8e188 : u_T := fun k => match k with
  | _ => ("", "", "", false)
def tyJx8e188 : Nat → FieldType := fun k => match k with
  | _ => .int
abbrev wsJx8e1880 : List Cond := u_ws RJx8e188 TJx8e188 0
theorem nmJx8e188 : ∀ a, a < 0 → ∀ b, b < 0 → a ≠ b → (TJx8e188 a).2.1 ≠ (TJx8e188 b).2.1 := by decide +kernel
theorem tyJx8e188_ok : ∀ k, k < 0 → parseFieldDescriptor (TJx8e188 k).2.2.1 = some (tyJx8e188 k) := by decide +kernel
def RJxb160c : String := "java/lang/Comparable"
def TJxb160c : u_T := fun k => match k with
  | _ => ("", "", "", false)
def tyJxb160c : Nat → FieldType := fun k => match k with
  | _ => .int
abbrev wsJxb160c0 : List Cond := u_ws RJxb160c TJxb160c 0
theorem nmJxb160c : ∀ a, a < 0 → ∀ b, b < 0 → a ≠ b → (TJxb160c a).2.1 ≠ (TJxb160c b).2.1 := by decide +kernel
theorem tyJxb160c_ok : ∀ k, k < 0 → parseFieldDescriptor (TJxb160c k).2.2.1 = some (tyJxb160c k) := by decide +kernel
def RJ6 : String := "java/lang/Integer"
def TJ6 : u_T := fun k => match k with
  | _ => ("", "", "", false)
def tyJ6 : Nat → FieldType := fun k => match k with
  | _ => .int
abbrev wsJ60 : List Cond := u_ws RJ6 TJ6 0
theorem nmJ6 : ∀ a, a < 0 → ∀ b, b < 0 → a ≠ b → (TJ6 a).2.1 ≠ (TJ6 b).2.1 := by decide +kernel
theorem tyJ6_ok : ∀ k, k < 0 → parseFieldDescriptor (TJ6 k).2.2.1 = some (tyJ6 k) := by decide +kernel
abbrev cJ6_getChars_ba4f3 : ByteArray := prog_23_method_12_code
def yJ6_getChars_ba4f3 : MethodName := ⟨RJ6, "getChars", "(II[B)I"⟩
abbrev cJ6_stringSize_0f7a4 : ByteArray := prog_23_method_13_code
def yJ6_stringSize_0f7a4 : MethodName := ⟨RJ6, "stringSize", "(I)I"⟩
def RJ9 : String := "java/lang/Math"
def TJ9 : u_T := fun k => match k with
  | _ => ("", "", "", false)
def tyJ9 : Nat → FieldType := fun k => match k with
  | _ => .int
abbrev wsJ90 : List Cond := u_ws RJ9 TJ9 0
theorem nmJ9 : ∀ a, a < 0 → ∀ b, b < 0 → a ≠ b → (TJ9 a).2.1 ≠ (TJ9 b).2.1 := by decide +kernel
theorem tyJ9_ok : ∀ k, k < 0 → parseFieldDescriptor (TJ9 k).2.2.1 = some (tyJ9 k) := by decide +kernel
abbrev cJ9_abs_0f7a4 : ByteArray := prog_24_method_59_code
def yJ9_abs_0f7a4 : MethodName := ⟨RJ9, "abs", "(I)I"⟩
abbrev cJ9_max_7cf53 : ByteArray := prog_24_method_65_code
def yJ9_max_7cf53 : MethodName := ⟨RJ9, "max", "(II)I"⟩
abbrev cJ9_max_f86c9 : ByteArray := prog_24_method_66_code
def yJ9_max_f86c9 : MethodName := ⟨RJ9, "max", "(JJ)J"⟩
abbrev cJ9_min_7cf53 : ByteArray := prog_24_method_69_code
def yJ9_min_7cf53 : MethodName := ⟨RJ9, "min", "(II)I"⟩
abbrev cJ9_min_f86c9 : ByteArray := prog_24_method_70_code
def yJ9_min_f86c9 : MethodName := ⟨RJ9, "min", "(JJ)J"⟩
def RJxd2413 : String := "java/lang/Number"
def TJxd2413 : u_T := fun k => match k with
  | _ => ("", "", "", false)
def tyJxd2413 : Nat → FieldType := fun k => match k with
  | _ => .int
abbrev wsJxd24130 : List Cond := u_ws RJxd2413 TJxd2413 0
theorem nmJxd2413 : ∀ a, a < 0 → ∀ b, b < 0 → a ≠ b → (TJxd2413 a).2.1 ≠ (TJxd2413 b).2.1 := by decide +kernel
theorem tyJxd2413_ok : ∀ k, k < 0 → parseFieldDescriptor (TJxd2413 k).2.2.1 = some (tyJxd2413 k) := by decide +kernel
def RJ0 : String := "java/lang/String"
def TJ0 : u_T := fun k => match k with
  | 0 => ("java/lang/String", "value", "[B", true)
  | 1 => ("java/lang/String", "coder", "B", true)
  | 2 => ("java/lang/String", "hash", "I", false)
  | _ => ("java/lang/String", "hashIsZero", "Z", false)
def tyJ0 : Nat → FieldType := fun k => match k with
  | 0 => .array .byte
  | 1 => .byte
  | 2 => .int
  | _ => .boolean
abbrev wsJ00 : List Cond := u_ws RJ0 TJ0 4
theorem nmJ0 : ∀ a, a < 4 → ∀ b, b < 4 → a ≠ b → (TJ0 a).2.1 ≠ (TJ0 b).2.1 := by decide +kernel
theorem tyJ0_ok : ∀ k, k < 4 → parseFieldDescriptor (TJ0 k).2.2.1 = some (tyJ0 k) := by decide +kernel
abbrev cJ0_init_81219 : ByteArray := prog_27_method_53_code
def yJ0_init_81219 : MethodName := ⟨RJ0, "<init>", "(Ljava/lang/StringBuilder;)V"⟩
abbrev cJ0_length_8abf5 : ByteArray := prog_27_method_54_code
def yJ0_length_8abf5 : MethodName := ⟨RJ0, "length", "()I"⟩
abbrev cJ0_charAt_5068e : ByteArray := prog_27_method_56_code
def yJ0_charAt_5068e : MethodName := ⟨RJ0, "charAt", "(I)C"⟩
abbrev cJ0_getBytes_840e7 : ByteArray := prog_27_method_147_code
def yJ0_getBytes_840e7 : MethodName := ⟨RJ0, "getBytes", "([BIB)V"⟩
abbrev cJ0_init_db425 : ByteArray := prog_27_method_150_code
def yJ0_init_db425 : MethodName := ⟨RJ0, "<init>", "(Ljava/lang/AbstractStringBuilder;Ljava/lang/Void;)V"⟩
abbrev cJ0_coder_7d493 : ByteArray := prog_27_method_152_code
def yJ0_coder_7d493 : MethodName := ⟨RJ0, "coder", "()B"⟩
abbrev cJ0_isLatin1_aae02 : ByteArray := prog_27_method_154_code
def yJ0_isLatin1_aae02 : MethodName := ⟨RJ0, "isLatin1", "()Z"⟩
abbrev cJ0_checkIndex_df160 : ByteArray := prog_27_method_155_code
def yJ0_checkIndex_df160 : MethodName := ⟨RJ0, "checkIndex", "(II)V"⟩
abbrev cJ0_checkBoundsOffCount_cabcc : ByteArray := prog_27_method_157_code
def yJ0_checkBoundsOffCount_cabcc : MethodName := ⟨RJ0, "checkBoundsOffCount", "(III)I"⟩
abbrev cJ0_checkBoundsBeginEnd_23922 : ByteArray := prog_27_method_158_code
def yJ0_checkBoundsBeginEnd_23922 : MethodName := ⟨RJ0, "checkBoundsBeginEnd", "(III)V"⟩
def RJ4 : String := "java/lang/StringBuilder"
def TJ4 : u_T := fun k => match k with
  | 0 => ("java/lang/AbstractStringBuilder", "value", "[B", false)
  | 1 => ("java/lang/AbstractStringBuilder", "coder", "B", false)
  | 2 => ("java/lang/AbstractStringBuilder", "maybeLatin1", "Z", false)
  | _ => ("java/lang/AbstractStringBuilder", "count", "I", false)
def tyJ4 : Nat → FieldType := fun k => match k with
  | 0 => .array .byte
  | 1 => .byte
  | 2 => .boolean
  | _ => .int
abbrev wsJ40 : List Cond := u_ws RJ4 TJ4 4
theorem nmJ4 : ∀ a, a < 4 → ∀ b, b < 4 → a ≠ b → (TJ4 a).2.1 ≠ (TJ4 b).2.1 := by decide +kernel
theorem tyJ4_ok : ∀ k, k < 4 → parseFieldDescriptor (TJ4 k).2.2.1 = some (tyJ4 k) := by decide +kernel
abbrev cJ4_init_da8c8 : ByteArray := prog_28_method_1_code
def yJ4_init_da8c8 : MethodName := ⟨RJ4, "<init>", "()V"⟩
abbrev cJ4_append_15ec4 : ByteArray := prog_28_method_7_code
def yJ4_append_15ec4 : MethodName := ⟨RJ4, "append", "(Ljava/lang/String;)Ljava/lang/StringBuilder;"⟩
abbrev cJ4_append_cf468 : ByteArray := prog_28_method_14_code
def yJ4_append_cf468 : MethodName := ⟨RJ4, "append", "(C)Ljava/lang/StringBuilder;"⟩
abbrev cJ4_append_bf812 : ByteArray := prog_28_method_15_code
def yJ4_append_bf812 : MethodName := ⟨RJ4, "append", "(I)Ljava/lang/StringBuilder;"⟩
abbrev cJ4_toString_0e30d : ByteArray := prog_28_method_42_code
def yJ4_toString_0e30d : MethodName := ⟨RJ4, "toString", "()Ljava/lang/String;"⟩
abbrev cJ4_length_8abf5 : ByteArray := prog_28_method_93_code
def yJ4_length_8abf5 : MethodName := ⟨RJ4, "length", "()I"⟩
def RJ1 : String := "java/lang/StringLatin1"
def TJ1 : u_T := fun k => match k with
  | _ => ("", "", "", false)
def tyJ1 : Nat → FieldType := fun k => match k with
  | _ => .int
abbrev wsJ10 : List Cond := u_ws RJ1 TJ1 0
theorem nmJ1 : ∀ a, a < 0 → ∀ b, b < 0 → a ≠ b → (TJ1 a).2.1 ≠ (TJ1 b).2.1 := by decide +kernel
theorem tyJ1_ok : ∀ k, k < 0 → parseFieldDescriptor (TJ1 k).2.2.1 = some (tyJ1 k) := by decide +kernel
abbrev cJ1_charAt_3b067 : ByteArray := prog_29_method_2_code
def yJ1_charAt_3b067 : MethodName := ⟨RJ1, "charAt", "([BI)C"⟩
abbrev cJ1_canEncode_fc78d : ByteArray := prog_29_method_3_code
def yJ1_canEncode_fc78d : MethodName := ⟨RJ1, "canEncode", "(C)Z"⟩
abbrev cJ1_inflate_0e8fd : ByteArray := prog_29_method_50_code
def yJ1_inflate_0e8fd : MethodName := ⟨RJ1, "inflate", "([BI[BII)V"⟩
def RJ2 : String := "java/lang/StringUTF16"
def TJ2 : u_T := fun k => match k with
  | _ => ("", "", "", false)
def tyJ2 : Nat → FieldType := fun k => match k with
  | _ => .int
abbrev wsJ20 : List Cond := u_ws RJ2 TJ2 0
theorem nmJ2 : ∀ a, a < 0 → ∀ b, b < 0 → a ≠ b → (TJ2 a).2.1 ≠ (TJ2 b).2.1 := by decide +kernel
theorem tyJ2_ok : ∀ k, k < 0 → parseFieldDescriptor (TJ2 k).2.2.1 = some (tyJ2 k) := by decide +kernel
abbrev cJ2_newBytesFor_77867 : ByteArray := prog_30_method_2_code
def yJ2_newBytesFor_77867 : MethodName := ⟨RJ2, "newBytesFor", "(I)[B"⟩
abbrev cJ2_newBytesLength_0f7a4 : ByteArray := prog_30_method_3_code
def yJ2_newBytesLength_0f7a4 : MethodName := ⟨RJ2, "newBytesLength", "(I)I"⟩
abbrev cJ2_putChar_b72d1 : ByteArray := prog_30_method_4_code
def yJ2_putChar_b72d1 : MethodName := ⟨RJ2, "putChar", "([BII)V"⟩
abbrev cJ2_getChar_3b067 : ByteArray := prog_30_method_5_code
def yJ2_getChar_3b067 : MethodName := ⟨RJ2, "getChar", "([BI)C"⟩
abbrev cJ2_length_9d52b : ByteArray := prog_30_method_6_code
def yJ2_length_9d52b : MethodName := ⟨RJ2, "length", "([B)I"⟩
abbrev cJ2_coderFromArrayLen_85cad : ByteArray := prog_30_method_15_code
def yJ2_coderFromArrayLen_85cad : MethodName := ⟨RJ2, "coderFromArrayLen", "([BI)B"⟩
abbrev cJ2_compress_39247 : ByteArray := prog_30_method_17_code
def yJ2_compress_39247 : MethodName := ⟨RJ2, "compress", "([BII)[B"⟩
abbrev cJ2_compress_5af95 : ByteArray := prog_30_method_22_code
def yJ2_compress_5af95 : MethodName := ⟨RJ2, "compress", "([BI[BII)I"⟩
abbrev cJ2_putCharSB_b72d1 : ByteArray := prog_30_method_71_code
def yJ2_putCharSB_b72d1 : MethodName := ⟨RJ2, "putCharSB", "([BII)V"⟩
abbrev cJ2_getChars_46870 : ByteArray := prog_30_method_77_code
def yJ2_getChars_46870 : MethodName := ⟨RJ2, "getChars", "(III[B)I"⟩
abbrev cJ2_putCharsAt_cd4e5 : ByteArray := prog_30_method_81_code
def yJ2_putCharsAt_cd4e5 : MethodName := ⟨RJ2, "putCharsAt", "([BICCCC)I"⟩
abbrev cJ2_charAt_3b067 : ByteArray := prog_30_method_83_code
def yJ2_charAt_3b067 : MethodName := ⟨RJ2, "charAt", "([BI)C"⟩
abbrev cJ2_inflate_0e8fd : ByteArray := prog_30_method_86_code
def yJ2_inflate_0e8fd : MethodName := ⟨RJ2, "inflate", "([BI[BII)V"⟩
abbrev cJ2_getChars_ba4f3 : ByteArray := prog_30_method_89_code
def yJ2_getChars_ba4f3 : MethodName := ⟨RJ2, "getChars", "(II[B)I"⟩
abbrev cJ2_checkIndex_2214a : ByteArray := prog_30_method_91_code
def yJ2_checkIndex_2214a : MethodName := ⟨RJ2, "checkIndex", "(I[B)V"⟩
abbrev cJ2_checkBoundsBeginEnd_d044e : ByteArray := prog_30_method_93_code
def yJ2_checkBoundsBeginEnd_d044e : MethodName := ⟨RJ2, "checkBoundsBeginEnd", "(II[B)V"⟩
abbrev cJ2_checkBoundsOffCount_d044e : ByteArray := prog_30_method_94_code
def yJ2_checkBoundsOffCount_d044e : MethodName := ⟨RJ2, "checkBoundsOffCount", "(II[B)V"⟩
def RJ10 : String := "java/lang/System"
def TJ10 : u_T := fun k => match k with
  | _ => ("", "", "", false)
def tyJ10 : Nat → FieldType := fun k => match k with
  | _ => .int
abbrev wsJ100 : List Cond := u_ws RJ10 TJ10 0
theorem nmJ10 : ∀ a, a < 0 → ∀ b, b < 0 → a ≠ b → (TJ10 a).2.1 ≠ (TJ10 b).2.1 := by decide +kernel
theorem tyJ10_ok : ∀ k, k < 0 → parseFieldDescriptor (TJ10 k).2.2.1 = some (tyJ10 k) := by decide +kernel
def RJxfd54e : String := "java/lang/constant/Constable"
def TJxfd54e : u_T := fun k => match k with
  | _ => ("", "", "", false)
def tyJxfd54e : Nat → FieldType := fun k => match k with
  | _ => .int
abbrev wsJxfd54e0 : List Cond := u_ws RJxfd54e TJxfd54e 0
theorem nmJxfd54e : ∀ a, a < 0 → ∀ b, b < 0 → a ≠ b → (TJxfd54e a).2.1 ≠ (TJxfd54e b).2.1 := by decide +kernel
theorem tyJxfd54e_ok : ∀ k, k < 0 → parseFieldDescriptor (TJxfd54e k).2.2.1 = some (tyJxfd54e k) := by decide +kernel
def RJx3cf43 : String := "java/lang/constant/ConstantDesc"
def TJx3cf43 : u_T := fun k => match k with
  | _ => ("", "", "", false)
def tyJx3cf43 : Nat → FieldType := fun k => match k with
  | _ => .int
abbrev wsJx3cf430 : List Cond := u_ws RJx3cf43 TJx3cf43 0
theorem nmJx3cf43 : ∀ a, a < 0 → ∀ b, b < 0 → a ≠ b → (TJx3cf43 a).2.1 ≠ (TJx3cf43 b).2.1 := by decide +kernel
theorem tyJx3cf43_ok : ∀ k, k < 0 → parseFieldDescriptor (TJx3cf43 k).2.2.1 = some (tyJx3cf43 k) := by decide +kernel
def RJ7 : String := "java/util/Arrays"
def TJ7 : u_T := fun k => match k with
  | _ => ("", "", "", false)
def tyJ7 : Nat → FieldType := fun k => match k with
  | _ => .int
abbrev wsJ70 : List Cond := u_ws RJ7 TJ7 0
theorem nmJ7 : ∀ a, a < 0 → ∀ b, b < 0 → a ≠ b → (TJ7 a).2.1 ≠ (TJ7 b).2.1 := by decide +kernel
theorem tyJ7_ok : ∀ k, k < 0 → parseFieldDescriptor (TJ7 k).2.2.1 = some (tyJ7 k) := by decide +kernel
abbrev cJ7_copyOf_9075b : ByteArray := prog_33_method_121_code
def yJ7_copyOf_9075b : MethodName := ⟨RJ7, "copyOf", "([BI)[B"⟩
abbrev cJ7_checkLength_df160 : ByteArray := prog_33_method_131_code
def yJ7_checkLength_df160 : MethodName := ⟨RJ7, "checkLength", "(II)V"⟩
abbrev cJ7_copyOfRange_39247 : ByteArray := prog_33_method_132_code
def yJ7_copyOfRange_39247 : MethodName := ⟨RJ7, "copyOfRange", "([BII)[B"⟩
abbrev cJ7_copyOfRangeByte_39247 : ByteArray := prog_33_method_133_code
def yJ7_copyOfRangeByte_39247 : MethodName := ⟨RJ7, "copyOfRangeByte", "([BII)[B"⟩
def RJ8 : String := "jdk/internal/util/ArraysSupport"
def TJ8 : u_T := fun k => match k with
  | _ => ("", "", "", false)
def tyJ8 : Nat → FieldType := fun k => match k with
  | _ => .int
abbrev wsJ80 : List Cond := u_ws RJ8 TJ8 0
theorem nmJ8 : ∀ a, a < 0 → ∀ b, b < 0 → a ≠ b → (TJ8 a).2.1 ≠ (TJ8 b).2.1 := by decide +kernel
theorem tyJ8_ok : ∀ k, k < 0 → parseFieldDescriptor (TJ8 k).2.2.1 = some (tyJ8 k) := by decide +kernel
abbrev cJ8_newLength_cabcc : ByteArray := prog_34_method_27_code
def yJ8_newLength_cabcc : MethodName := ⟨RJ8, "newLength", "(III)I"⟩
abbrev cJ8_hugeLength_7cf53 : ByteArray := prog_34_method_28_code
def yJ8_hugeLength_7cf53 : MethodName := ⟨RJ8, "hugeLength", "(II)I"⟩
def RJ3 : String := "jdk/internal/util/Preconditions"
def TJ3 : u_T := fun k => match k with
  | _ => ("", "", "", false)
def tyJ3 : Nat → FieldType := fun k => match k with
  | _ => .int
abbrev wsJ30 : List Cond := u_ws RJ3 TJ3 0
theorem nmJ3 : ∀ a, a < 0 → ∀ b, b < 0 → a ≠ b → (TJ3 a).2.1 ≠ (TJ3 b).2.1 := by decide +kernel
theorem tyJ3_ok : ∀ k, k < 0 → parseFieldDescriptor (TJ3 k).2.2.1 = some (tyJ3 k) := by decide +kernel
abbrev cJ3_checkIndex_8e157 : ByteArray := prog_35_method_11_code
def yJ3_checkIndex_8e157 : MethodName := ⟨RJ3, "checkIndex", "(IILjava/util/function/BiFunction;)I"⟩
abbrev cJ3_checkFromToIndex_8c36e : ByteArray := prog_35_method_12_code
def yJ3_checkFromToIndex_8c36e : MethodName := ⟨RJ3, "checkFromToIndex", "(IIILjava/util/function/BiFunction;)I"⟩
abbrev cJ3_checkFromIndexSize_8c36e : ByteArray := prog_35_method_13_code
def yJ3_checkFromIndexSize_8c36e : MethodName := ⟨RJ3, "checkFromIndexSize", "(IIILjava/util/function/BiFunction;)I"⟩
def RL : String := "BlastPlannerLaw"
abbrev cL_asks : ByteArray := method_2_code
def yL_asks : MethodName := ⟨RL, "asks", "(LBlastPlanner;IIII)I"⟩
abbrev cL_text : ByteArray := method_3_code
def yL_text : MethodName := ⟨RL, "text", "(LBlastPlanner;Ljava/lang/String;)Z"⟩
abbrev cL_four : ByteArray := method_4_code
def yL_four : MethodName := ⟨RL, "four", "(Ljava/lang/String;I)I"⟩
abbrev cL_law : ByteArray := code
def yL_law : MethodName := ⟨RL, "law", "([I)Z"⟩
abbrev cL_isKnown : ByteArray := method_6_code
def yL_isKnown : MethodName := ⟨RL, "isKnown", "(LBlastPlanner;LBlastPlannerLaw$Drawn;LBlastPlannerLaw$Draws;I)Z"⟩
abbrev vwCl : List vw_C := [(RX0, TX0, 14), (RX1, TX1, 2), (RX2, TX2, 3), (RX3, TX3, 3), (RX4, TX4, 6), (RX5, TX5, 1), (RX6, TX6, 6), (RX7, TX7, 4), (RX8, TX8, 2), (RX9, TX9, 18), (RX10, TX10, 5), (RX11, TX11, 10), (RX12, TX12, 27), (RX13, TX13, 1), (RJ0, TJ0, 4), (RJ4, TJ4, 4)]
