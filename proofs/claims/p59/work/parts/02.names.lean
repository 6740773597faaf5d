def RX0 : String := "SheetFolder$History"
def TX0 : u_T := fun k => match k with
  | 0 => ("SheetFolder$History", "before", "[LSheetFolder$Part;", true)
  | 1 => ("SheetFolder$History", "oldest", "I", false)
  | _ => ("SheetFolder$History", "count", "I", false)
def tyX0 : Nat → FieldType := fun k => match k with
  | 0 => .array (.object "SheetFolder$Part")
  | 1 => .int
  | _ => .int
abbrev wsX00 : List Cond := u_ws RX0 TX0 3
theorem nmX0 : ∀ a, a < 3 → ∀ b, b < 3 → a ≠ b → (TX0 a).2.1 ≠ (TX0 b).2.1 := by decide +kernel
theorem tyX0_ok : ∀ k, k < 3 → parseFieldDescriptor (TX0 k).2.2.1 = some (tyX0 k) := by decide +kernel
abbrev cX0_init : ByteArray := prog_2_method_1_code
def yX0_init : MethodName := ⟨RX0, "<init>", "()V"⟩
abbrev cX0_forgetAll : ByteArray := prog_2_method_2_code
def yX0_forgetAll : MethodName := ⟨RX0, "forgetAll", "()V"⟩
abbrev cX0_remember : ByteArray := prog_2_method_3_code
def yX0_remember : MethodName := ⟨RX0, "remember", "(LSheetFolder$Part;)V"⟩
def RX1 : String := "SheetFolder$Part"
def TX1 : u_T := fun k => match k with
  | 0 => ("SheetFolder$Part", "legCount", "I", false)
  | 1 => ("SheetFolder$Part", "legLengths", "[I", true)
  | 2 => ("SheetFolder$Part", "upBits", "I", false)
  | 3 => ("SheetFolder$Part", "thickness", "I", false)
  | 4 => ("SheetFolder$Part", "radius", "I", false)
  | 5 => ("SheetFolder$Part", "neutral", "I", false)
  | 6 => ("SheetFolder$Part", "toolNumbers", "[I", true)
  | 7 => ("SheetFolder$Part", "flipCost", "I", false)
  | 8 => ("SheetFolder$Part", "turnCost", "I", false)
  | 9 => ("SheetFolder$Part", "moveCost", "I", false)
  | 10 => ("SheetFolder$Part", "backCount", "I", false)
  | 11 => ("SheetFolder$Part", "backRatios", "[I", true)
  | 12 => ("SheetFolder$Part", "backAngles", "[I", true)
  | 13 => ("SheetFolder$Part", "madeBits", "I", false)
  | 14 => ("SheetFolder$Part", "stepCount", "I", false)
  | 15 => ("SheetFolder$Part", "stepCodes", "[I", true)
  | 16 => ("SheetFolder$Part", "stepGauges", "[I", true)
  | _ => ("SheetFolder$Part", "stepCosts", "[I", true)
def tyX1 : Nat → FieldType := fun k => match k with
  | 0 => .int
  | 1 => .array .int
  | 2 => .int
  | 3 => .int
  | 4 => .int
  | 5 => .int
  | 6 => .array .int
  | 7 => .int
  | 8 => .int
  | 9 => .int
  | 10 => .int
  | 11 => .array .int
  | 12 => .array .int
  | 13 => .int
  | 14 => .int
  | 15 => .array .int
  | 16 => .array .int
  | _ => .array .int
abbrev wsX10 : List Cond := u_ws RX1 TX1 18
theorem nmX1 : ∀ a, a < 18 → ∀ b, b < 18 → a ≠ b → (TX1 a).2.1 ≠ (TX1 b).2.1 := by decide +kernel
theorem tyX1_ok : ∀ k, k < 18 → parseFieldDescriptor (TX1 k).2.2.1 = some (tyX1 k) := by decide +kernel
abbrev cX1_init : ByteArray := prog_3_method_1_code
def yX1_init : MethodName := ⟨RX1, "<init>", "()V"⟩
abbrev cX1_clear : ByteArray := prog_3_method_2_code
def yX1_clear : MethodName := ⟨RX1, "clear", "()V"⟩
abbrev cX1_copyFrom : ByteArray := prog_3_method_3_code
def yX1_copyFrom : MethodName := ⟨RX1, "copyFrom", "(LSheetFolder$Part;)V"⟩
abbrev cX1_putSheet : ByteArray := prog_3_method_4_code
def yX1_putSheet : MethodName := ⟨RX1, "putSheet", "(III)V"⟩
abbrev cX1_putTool : ByteArray := prog_3_method_5_code
def yX1_putTool : MethodName := ⟨RX1, "putTool", "(III)V"⟩
abbrev cX1_putCosts : ByteArray := prog_3_method_6_code
def yX1_putCosts : MethodName := ⟨RX1, "putCosts", "(III)V"⟩
abbrev cX1_addBack : ByteArray := prog_3_method_7_code
def yX1_addBack : MethodName := ⟨RX1, "addBack", "(II)V"⟩
abbrev cX1_lastBackRatio : ByteArray := prog_3_method_8_code
def yX1_lastBackRatio : MethodName := ⟨RX1, "lastBackRatio", "()I"⟩
abbrev cX1_addLeg : ByteArray := prog_3_method_9_code
def yX1_addLeg : MethodName := ⟨RX1, "addLeg", "(IZ)V"⟩
abbrev cX1_bendCount : ByteArray := prog_3_method_10_code
def yX1_bendCount : MethodName := ⟨RX1, "bendCount", "()I"⟩
abbrev cX1_allBends : ByteArray := prog_3_method_11_code
def yX1_allBends : MethodName := ⟨RX1, "allBends", "()I"⟩
abbrev cX1_goesUp : ByteArray := prog_3_method_12_code
def yX1_goesUp : MethodName := ⟨RX1, "goesUp", "(I)Z"⟩
abbrev cX1_dropSteps : ByteArray := prog_3_method_19_code
def yX1_dropSteps : MethodName := ⟨RX1, "dropSteps", "()V"⟩
abbrev cX1_addStep : ByteArray := prog_3_method_20_code
def yX1_addStep : MethodName := ⟨RX1, "addStep", "(III)V"⟩
abbrev cX1_lastCode : ByteArray := prog_3_method_21_code
def yX1_lastCode : MethodName := ⟨RX1, "lastCode", "()I"⟩
abbrev cX1_lastGauge : ByteArray := prog_3_method_22_code
def yX1_lastGauge : MethodName := ⟨RX1, "lastGauge", "()I"⟩
abbrev cX1_priceBetween : ByteArray := prog_3_method_24_code
def yX1_priceBetween : MethodName := ⟨RX1, "priceBetween", "(IIII)I"⟩
def RX2 : String := "SheetFolder$Places"
def TX2 : u_T := fun k => match k with
  | 0 => ("SheetFolder$Places", "farX", "[I", true)
  | 1 => ("SheetFolder$Places", "farY", "[I", true)
  | 2 => ("SheetFolder$Places", "leastX", "[I", true)
  | 3 => ("SheetFolder$Places", "mostX", "[I", true)
  | 4 => ("SheetFolder$Places", "leastY", "[I", true)
  | 5 => ("SheetFolder$Places", "mostY", "[I", true)
  | 6 => ("SheetFolder$Places", "legCount", "I", false)
  | 7 => ("SheetFolder$Places", "clampedFrom", "I", false)
  | _ => ("SheetFolder$Places", "clampedTo", "I", false)
def tyX2 : Nat → FieldType := fun k => match k with
  | 0 => .array .int
  | 1 => .array .int
  | 2 => .array .int
  | 3 => .array .int
  | 4 => .array .int
  | 5 => .array .int
  | 6 => .int
  | 7 => .int
  | _ => .int
abbrev wsX20 : List Cond := u_ws RX2 TX2 9
theorem nmX2 : ∀ a, a < 9 → ∀ b, b < 9 → a ≠ b → (TX2 a).2.1 ≠ (TX2 b).2.1 := by decide +kernel
theorem tyX2_ok : ∀ k, k < 9 → parseFieldDescriptor (TX2 k).2.2.1 = some (tyX2 k) := by decide +kernel
abbrev cX2_init : ByteArray := prog_4_method_1_code
def yX2_init : MethodName := ⟨RX2, "<init>", "()V"⟩
abbrev cX2_layFinished : ByteArray := prog_4_method_2_code
def yX2_layFinished : MethodName := ⟨RX2, "layFinished", "(LSheetFolder$Part;)V"⟩
abbrev cX2_layStep : ByteArray := prog_4_method_3_code
def yX2_layStep : MethodName := ⟨RX2, "layStep", "(LSheetFolder$Part;II)V"⟩
abbrev cX2_walk : ByteArray := prog_4_method_4_code
def yX2_walk : MethodName := ⟨RX2, "walk", "(LSheetFolder$Part;IIIIII)V"⟩
abbrev cX2_isClamped : ByteArray := prog_4_method_5_code
def yX2_isClamped : MethodName := ⟨RX2, "isClamped", "(I)Z"⟩
abbrev cX2_reachToBack : ByteArray := prog_4_method_6_code
def yX2_reachToBack : MethodName := ⟨RX2, "reachToBack", "()I"⟩
abbrev cX2_topOfFreeSide : ByteArray := prog_4_method_7_code
def yX2_topOfFreeSide : MethodName := ⟨RX2, "topOfFreeSide", "()I"⟩
abbrev cX2_legsHitting : ByteArray := prog_4_method_9_code
def yX2_legsHitting : MethodName := ⟨RX2, "legsHitting", "(LSheetFolder$Part;)I"⟩
abbrev cX2_enters : ByteArray := prog_4_method_10_code
def yX2_enters : MethodName := ⟨RX2, "enters", "(IIIII)Z"⟩
abbrev cX2_crossesItself : ByteArray := prog_4_method_11_code
def yX2_crossesItself : MethodName := ⟨RX2, "crossesItself", "()Z"⟩
abbrev cX2_touch : ByteArray := prog_4_method_12_code
def yX2_touch : MethodName := ⟨RX2, "touch", "(II)Z"⟩
abbrev cX2_reasonFor : ByteArray := prog_4_method_13_code
def yX2_reasonFor : MethodName := ⟨RX2, "reasonFor", "(LSheetFolder$Part;II)I"⟩
abbrev cX2_possibleSteps : ByteArray := prog_4_method_14_code
def yX2_possibleSteps : MethodName := ⟨RX2, "possibleSteps", "(LSheetFolder$Part;I)I"⟩
def RX3 : String := "SheetFolder$Planner"
def TX3 : u_T := fun k => match k with
  | 0 => ("SheetFolder$Planner", "leastTotal", "I", false)
  | 1 => ("SheetFolder$Planner", "greatestTotal", "I", false)
  | 2 => ("SheetFolder$Planner", "plan", "[I", true)
  | 3 => ("SheetFolder$Planner", "planLength", "I", false)
  | 4 => ("SheetFolder$Planner", "places", "LSheetFolder$Places;", true)
  | 5 => ("SheetFolder$Planner", "known", "LSheetFolder$Part;", true)
  | 6 => ("SheetFolder$Planner", "isPlanKnown", "Z", false)
  | 7 => ("SheetFolder$Planner", "openSteps", "[I", true)
  | 8 => ("SheetFolder$Planner", "isReached", "[Z", true)
  | 9 => ("SheetFolder$Planner", "orderCounts", "[J", true)
  | 10 => ("SheetFolder$Planner", "gauges", "[I", true)
  | 11 => ("SheetFolder$Planner", "leastCosts", "[I", true)
  | _ => ("SheetFolder$Planner", "greatestCosts", "[I", true)
def tyX3 : Nat → FieldType := fun k => match k with
  | 0 => .int
  | 1 => .int
  | 2 => .array .int
  | 3 => .int
  | 4 => .object "SheetFolder$Places"
  | 5 => .object "SheetFolder$Part"
  | 6 => .boolean
  | 7 => .array .int
  | 8 => .array .boolean
  | 9 => .array .long
  | 10 => .array .int
  | 11 => .array .int
  | _ => .array .int
abbrev wsX30 : List Cond := u_ws RX3 TX3 13
theorem nmX3 : ∀ a, a < 13 → ∀ b, b < 13 → a ≠ b → (TX3 a).2.1 ≠ (TX3 b).2.1 := by decide +kernel
theorem tyX3_ok : ∀ k, k < 13 → parseFieldDescriptor (TX3 k).2.2.1 = some (tyX3 k) := by decide +kernel
abbrev cX3_init : ByteArray := prog_5_method_1_code
def yX3_init : MethodName := ⟨RX3, "<init>", "()V"⟩
abbrev cX3_forgetSteps : ByteArray := prog_5_method_7_code
def yX3_forgetSteps : MethodName := ⟨RX3, "forgetSteps", "()V"⟩
def RX4 : String := "SheetFolder$TextReader"
def TX4 : u_T := fun k => match k with
  | 0 => ("SheetFolder$TextReader", "kindOfError", "I", false)
  | 1 => ("SheetFolder$TextReader", "placeOfError", "I", false)
  | 2 => ("SheetFolder$TextReader", "bytes", "[B", false)
  | 3 => ("SheetFolder$TextReader", "length", "I", false)
  | 4 => ("SheetFolder$TextReader", "tokenFrom", "I", false)
  | 5 => ("SheetFolder$TextReader", "tokenTo", "I", false)
  | 6 => ("SheetFolder$TextReader", "token", "I", false)
  | 7 => ("SheetFolder$TextReader", "tokenNumber", "I", false)
  | _ => ("SheetFolder$TextReader", "numbers", "[I", true)
def tyX4 : Nat → FieldType := fun k => match k with
  | 0 => .int
  | 1 => .int
  | 2 => .array .byte
  | 3 => .int
  | 4 => .int
  | 5 => .int
  | 6 => .int
  | 7 => .int
  | _ => .array .int
abbrev wsX40 : List Cond := u_ws RX4 TX4 9
theorem nmX4 : ∀ a, a < 9 → ∀ b, b < 9 → a ≠ b → (TX4 a).2.1 ≠ (TX4 b).2.1 := by decide +kernel
theorem tyX4_ok : ∀ k, k < 9 → parseFieldDescriptor (TX4 k).2.2.1 = some (tyX4 k) := by decide +kernel
abbrev cX4_init : ByteArray := prog_6_method_1_code
def yX4_init : MethodName := ⟨RX4, "<init>", "()V"⟩
abbrev cX4_readText : ByteArray := prog_6_method_2_code
def yX4_readText : MethodName := ⟨RX4, "readText", "([BILSheetFolder$Part;)Z"⟩
abbrev cX4_readStatement : ByteArray := prog_6_method_3_code
def yX4_readStatement : MethodName := ⟨RX4, "readStatement", "(LSheetFolder$Part;)V"⟩
abbrev cX4_errorIfNot : ByteArray := prog_6_method_4_code
def yX4_errorIfNot : MethodName := ⟨RX4, "errorIfNot", "(II)I"⟩
abbrev cX4_errorOfWord : ByteArray := prog_6_method_5_code
def yX4_errorOfWord : MethodName := ⟨RX4, "errorOfWord", "(LSheetFolder$Word;LSheetFolder$Part;)I"⟩
abbrev cX4_errorOfNumber : ByteArray := prog_6_method_6_code
def yX4_errorOfNumber : MethodName := ⟨RX4, "errorOfNumber", "(LSheetFolder$Word;ILSheetFolder$Part;)I"⟩
abbrev cX4_accept : ByteArray := prog_6_method_7_code
def yX4_accept : MethodName := ⟨RX4, "accept", "(LSheetFolder$Word;LSheetFolder$Part;)V"⟩
abbrev cX4_nextToken : ByteArray := prog_6_method_8_code
def yX4_nextToken : MethodName := ⟨RX4, "nextToken", "()V"⟩
abbrev cX4_takeWord : ByteArray := prog_6_method_9_code
def yX4_takeWord : MethodName := ⟨RX4, "takeWord", "()V"⟩
abbrev cX4_takeNumber : ByteArray := prog_6_method_10_code
def yX4_takeNumber : MethodName := ⟨RX4, "takeNumber", "()V"⟩
abbrev cX4_isSpace : ByteArray := prog_6_method_11_code
def yX4_isSpace : MethodName := ⟨RX4, "isSpace", "(B)Z"⟩
abbrev cX4_isLetter : ByteArray := prog_6_method_12_code
def yX4_isLetter : MethodName := ⟨RX4, "isLetter", "(B)Z"⟩
abbrev cX4_isDigit : ByteArray := prog_6_method_13_code
def yX4_isDigit : MethodName := ⟨RX4, "isDigit", "(B)Z"⟩
def RX5 : String := "SheetFolder$Word"
def TX5 : u_T := fun k => match k with
  | _ => ("", "", "", false)
def tyX5 : Nat → FieldType := fun k => match k with
  | _ => .int
abbrev wsX50 : List Cond := u_ws RX5 TX5 0
theorem nmX5 : ∀ a, a < 0 → ∀ b, b < 0 → a ≠ b → (TX5 a).2.1 ≠ (TX5 b).2.1 := by decide +kernel
theorem tyX5_ok : ∀ k, k < 0 → parseFieldDescriptor (TX5 k).2.2.1 = some (tyX5 k) := by decide +kernel
abbrev cX5_find : ByteArray := prog_7_method_4_code
def yX5_find : MethodName := ⟨RX5, "find", "([BII)LSheetFolder$Word;"⟩
abbrev cX5_isSpelled : ByteArray := prog_7_method_5_code
def yX5_isSpelled : MethodName := ⟨RX5, "isSpelled", "([BII)Z"⟩
abbrev cX5_ofTool : ByteArray := prog_7_method_6_code
def yX5_ofTool : MethodName := ⟨RX5, "ofTool", "(I)LSheetFolder$Word;"⟩
abbrev cX5_toolNumber : ByteArray := prog_7_method_7_code
def yX5_toolNumber : MethodName := ⟨RX5, "toolNumber", "()I"⟩
abbrev cX5_numberCount : ByteArray := prog_7_method_8_code
def yX5_numberCount : MethodName := ⟨RX5, "numberCount", "()I"⟩
abbrev cX5_allows : ByteArray := prog_7_method_9_code
def yX5_allows : MethodName := ⟨RX5, "allows", "(II)Z"⟩
abbrev cX5_allowsBehind : ByteArray := prog_7_method_10_code
def yX5_allowsBehind : MethodName := ⟨RX5, "allowsBehind", "(III)Z"⟩
abbrev cX5_isBend : ByteArray := prog_7_method_11_code
def yX5_isBend : MethodName := ⟨RX5, "isBend", "()Z"⟩
def RX6 : String := "SheetFolder"
def TX6 : u_T := fun k => match k with
  | 0 => ("SheetFolder", "buffer", "[B", true)
  | 1 => ("SheetFolder", "buffered", "I", false)
  | 2 => ("SheetFolder", "reader", "LSheetFolder$TextReader;", true)
  | 3 => ("SheetFolder", "part", "LSheetFolder$Part;", true)
  | 4 => ("SheetFolder", "scratch", "LSheetFolder$Part;", true)
  | 5 => ("SheetFolder", "history", "LSheetFolder$History;", true)
  | 6 => ("SheetFolder", "places", "LSheetFolder$Places;", true)
  | 7 => ("SheetFolder", "planner", "LSheetFolder$Planner;", true)
  | _ => ("SheetFolder", "output", "Ljava/lang/StringBuilder;", true)
def tyX6 : Nat → FieldType := fun k => match k with
  | 0 => .array .byte
  | 1 => .int
  | 2 => .object "SheetFolder$TextReader"
  | 3 => .object "SheetFolder$Part"
  | 4 => .object "SheetFolder$Part"
  | 5 => .object "SheetFolder$History"
  | 6 => .object "SheetFolder$Places"
  | 7 => .object "SheetFolder$Planner"
  | _ => .object "java/lang/StringBuilder"
abbrev wsX60 : List Cond := u_ws RX6 TX6 9
theorem nmX6 : ∀ a, a < 9 → ∀ b, b < 9 → a ≠ b → (TX6 a).2.1 ≠ (TX6 b).2.1 := by decide +kernel
theorem tyX6_ok : ∀ k, k < 9 → parseFieldDescriptor (TX6 k).2.2.1 = some (tyX6 k) := by decide +kernel
abbrev cX6_init : ByteArray := prog_1_method_1_code
def yX6_init : MethodName := ⟨RX6, "<init>", "()V"⟩
abbrev cX6_feed : ByteArray := prog_1_method_2_code
def yX6_feed : MethodName := ⟨RX6, "feed", "(IIIII)I"⟩
abbrev cX6_append : ByteArray := prog_1_method_3_code
def yX6_append : MethodName := ⟨RX6, "append", "(I)V"⟩
abbrev cX6_load : ByteArray := prog_1_method_4_code
def yX6_load : MethodName := ⟨RX6, "load", "(I)I"⟩
abbrev cX6_errorKind : ByteArray := prog_1_method_5_code
def yX6_errorKind : MethodName := ⟨RX6, "errorKind", "()I"⟩
abbrev cX6_legs : ByteArray := prog_1_method_8_code
def yX6_legs : MethodName := ⟨RX6, "legs", "()I"⟩
abbrev cX6_isUp : ByteArray := prog_1_method_10_code
def yX6_isUp : MethodName := ⟨RX6, "isUp", "(I)Z"⟩
abbrev cX6_finishedCorner : ByteArray := prog_1_method_22_code
def yX6_finishedCorner : MethodName := ⟨RX6, "finishedCorner", "(II)I"⟩
abbrev cX6_made : ByteArray := prog_1_method_25_code
def yX6_made : MethodName := ⟨RX6, "made", "()I"⟩
abbrev cX6_reason : ByteArray := prog_1_method_29_code
def yX6_reason : MethodName := ⟨RX6, "reason", "(II)I"⟩
abbrev cX6_gauge : ByteArray := prog_1_method_30_code
def yX6_gauge : MethodName := ⟨RX6, "gauge", "(II)I"⟩
abbrev cX6_corner : ByteArray := prog_1_method_31_code
def yX6_corner : MethodName := ⟨RX6, "corner", "(IIII)I"⟩
abbrev cX6_top : ByteArray := prog_1_method_32_code
def yX6_top : MethodName := ⟨RX6, "top", "(II)I"⟩
abbrev cX6_hitting : ByteArray := prog_1_method_33_code
def yX6_hitting : MethodName := ⟨RX6, "hitting", "(II)I"⟩
abbrev cX6_possible : ByteArray := prog_1_method_35_code
def yX6_possible : MethodName := ⟨RX6, "possible", "()I"⟩
abbrev cX6_costOf : ByteArray := prog_1_method_37_code
def yX6_costOf : MethodName := ⟨RX6, "costOf", "(II)I"⟩
abbrev cX6_reasonNow : ByteArray := prog_1_method_38_code
def yX6_reasonNow : MethodName := ⟨RX6, "reasonNow", "(I)I"⟩
abbrev cX6_gaugeNow : ByteArray := prog_1_method_39_code
def yX6_gaugeNow : MethodName := ⟨RX6, "gaugeNow", "(I)I"⟩
abbrev cX6_costNow : ByteArray := prog_1_method_40_code
def yX6_costNow : MethodName := ⟨RX6, "costNow", "(I)I"⟩
abbrev cX6_fold : ByteArray := prog_1_method_51_code
def yX6_fold : MethodName := ⟨RX6, "fold", "(II)I"⟩
abbrev cX6_makeStep : ByteArray := prog_1_method_53_code
def yX6_makeStep : MethodName := ⟨RX6, "makeStep", "(I)I"⟩
abbrev cX6_requireBend : ByteArray := prog_1_method_64_code
def yX6_requireBend : MethodName := ⟨RX6, "requireBend", "(I)V"⟩
abbrev cX6_requireLeg : ByteArray := prog_1_method_65_code
def yX6_requireLeg : MethodName := ⟨RX6, "requireLeg", "(I)V"⟩
abbrev cX6_requireChoice : ByteArray := prog_1_method_66_code
def yX6_requireChoice : MethodName := ⟨RX6, "requireChoice", "(II)V"⟩
abbrev cX6_requireStep : ByteArray := prog_1_method_67_code
def yX6_requireStep : MethodName := ⟨RX6, "requireStep", "(II)V"⟩
def RX7 : String := "SheetFolderModel"
def TX7 : u_T := fun k => match k with
  | _ => ("", "", "", false)
def tyX7 : Nat → FieldType := fun k => match k with
  | _ => .int
abbrev wsX70 : List Cond := u_ws RX7 TX7 0
theorem nmX7 : ∀ a, a < 0 → ∀ b, b < 0 → a ≠ b → (TX7 a).2.1 ≠ (TX7 b).2.1 := by decide +kernel
theorem tyX7_ok : ∀ k, k < 0 → parseFieldDescriptor (TX7 k).2.2.1 = some (tyX7 k) := by decide +kernel
def RJ5 : String := "java/lang/AbstractStringBuilder"
def TJ5 : u_T := fun k => match k with
  | _ => ("", "", "", false)
def tyJ5 : Nat → FieldType := fun k => match k with
  | _ => .int
abbrev wsJ50 : List Cond := u_ws RJ5 TJ5 0
theorem nmJ5 : ∀ a, a < 0 → ∀ b, b < 0 → a ≠ b → (TJ5 a).2.1 ≠ (TJ5 b).2.1 := by decide +kernel
theorem tyJ5_ok : ∀ k, k < 0 → parseFieldDescriptor (TJ5 k).2.2.1 = some (tyJ5 k) := by decide +kernel
abbrev cJ5_init_d00df : ByteArray := prog_10_method_2_code
def yJ5_init_d00df : MethodName := ⟨RJ5, "<init>", "(I)V"⟩
abbrev cJ5_length_8abf5 : ByteArray := prog_10_method_6_code
def yJ5_length_8abf5 : MethodName := ⟨RJ5, "length", "()I"⟩
abbrev cJ5_ensureCapacityInternal_d00df : ByteArray := prog_10_method_9_code
def yJ5_ensureCapacityInternal_d00df : MethodName := ⟨RJ5, "ensureCapacityInternal", "(I)V"⟩
abbrev cJ5_newCapacity_0f7a4 : ByteArray := prog_10_method_10_code
def yJ5_newCapacity_0f7a4 : MethodName := ⟨RJ5, "newCapacity", "(I)I"⟩
abbrev cJ5_inflate_da8c8 : ByteArray := prog_10_method_11_code
def yJ5_inflate_da8c8 : MethodName := ⟨RJ5, "inflate", "()V"⟩
abbrev cJ5_append_cf1ce : ByteArray := prog_10_method_22_code
def yJ5_append_cf1ce : MethodName := ⟨RJ5, "append", "(Ljava/lang/String;)Ljava/lang/AbstractStringBuilder;"⟩
abbrev cJ5_appendNull_278bc : ByteArray := prog_10_method_26_code
def yJ5_appendNull_278bc : MethodName := ⟨RJ5, "appendNull", "()Ljava/lang/AbstractStringBuilder;"⟩
abbrev cJ5_append_c97b9 : ByteArray := prog_10_method_32_code
def yJ5_append_c97b9 : MethodName := ⟨RJ5, "append", "(I)Ljava/lang/AbstractStringBuilder;"⟩
abbrev cJ5_getValue_6d5f1 : ByteArray := prog_10_method_64_code
def yJ5_getValue_6d5f1 : MethodName := ⟨RJ5, "getValue", "()[B"⟩
abbrev cJ5_isLatin1_aae02 : ByteArray := prog_10_method_68_code
def yJ5_isLatin1_aae02 : MethodName := ⟨RJ5, "isLatin1", "()Z"⟩
abbrev cJ5_inflateIfNeededFor_a7421 : ByteArray := prog_10_method_71_code
def yJ5_inflateIfNeededFor_a7421 : MethodName := ⟨RJ5, "inflateIfNeededFor", "(Ljava/lang/String;)V"⟩
abbrev cJ5_putStringAt_47b60 : ByteArray := prog_10_method_73_code
def yJ5_putStringAt_47b60 : MethodName := ⟨RJ5, "putStringAt", "(ILjava/lang/String;)V"⟩
def RJx8e188 : String := "java/lang/Cloneable"
def TJx8e188 : u_T := fun k => match k with
  | _ => ("", "", "", false)
def tyJx8e188 : Nat → FieldType := fun k => match k with
  | _ => .int
abbrev wsJx8e1880 : List Cond := u_ws RJx8e188 TJx8e188 0
theorem nmJx8e188 : ∀ a, a < 0 → ∀ b, b < 0 → a ≠ b → (TJx8e188 a).2.1 ≠ (TJx8e188 b).2.1 := by decide +kernel
theorem tyJx8e188_ok : ∀ k, k < 0 → parseFieldDescriptor (TJx8e188 k).2.2.1 = some (tyJx8e188 k) := by decide +kernel
def RJx29ce0 : String := "java/lang/Enum"
def TJx29ce0 : u_T := fun k => match k with
  | _ => ("", "", "", false)
def tyJx29ce0 : Nat → FieldType := fun k => match k with
  | _ => .int
abbrev wsJx29ce00 : List Cond := u_ws RJx29ce0 TJx29ce0 0
theorem nmJx29ce0 : ∀ a, a < 0 → ∀ b, b < 0 → a ≠ b → (TJx29ce0 a).2.1 ≠ (TJx29ce0 b).2.1 := by decide +kernel
theorem tyJx29ce0_ok : ∀ k, k < 0 → parseFieldDescriptor (TJx29ce0 k).2.2.1 = some (tyJx29ce0 k) := by decide +kernel
def RJ6 : String := "java/lang/Integer"
def TJ6 : u_T := fun k => match k with
  | _ => ("", "", "", false)
def tyJ6 : Nat → FieldType := fun k => match k with
  | _ => .int
abbrev wsJ60 : List Cond := u_ws RJ6 TJ6 0
theorem nmJ6 : ∀ a, a < 0 → ∀ b, b < 0 → a ≠ b → (TJ6 a).2.1 ≠ (TJ6 b).2.1 := by decide +kernel
theorem tyJ6_ok : ∀ k, k < 0 → parseFieldDescriptor (TJ6 k).2.2.1 = some (tyJ6 k) := by decide +kernel
abbrev cJ6_getChars_ba4f3 : ByteArray := prog_17_method_12_code
def yJ6_getChars_ba4f3 : MethodName := ⟨RJ6, "getChars", "(II[B)I"⟩
abbrev cJ6_stringSize_0f7a4 : ByteArray := prog_17_method_13_code
def yJ6_stringSize_0f7a4 : MethodName := ⟨RJ6, "stringSize", "(I)I"⟩
def RJ9 : String := "java/lang/Math"
def TJ9 : u_T := fun k => match k with
  | _ => ("", "", "", false)
def tyJ9 : Nat → FieldType := fun k => match k with
  | _ => .int
abbrev wsJ90 : List Cond := u_ws RJ9 TJ9 0
theorem nmJ9 : ∀ a, a < 0 → ∀ b, b < 0 → a ≠ b → (TJ9 a).2.1 ≠ (TJ9 b).2.1 := by decide +kernel
theorem tyJ9_ok : ∀ k, k < 0 → parseFieldDescriptor (TJ9 k).2.2.1 = some (tyJ9 k) := by decide +kernel
abbrev cJ9_max_7cf53 : ByteArray := prog_18_method_65_code
def yJ9_max_7cf53 : MethodName := ⟨RJ9, "max", "(II)I"⟩
abbrev cJ9_min_7cf53 : ByteArray := prog_18_method_69_code
def yJ9_min_7cf53 : MethodName := ⟨RJ9, "min", "(II)I"⟩
def RJ0 : String := "java/lang/String"
def TJ0 : u_T := fun k => match k with
  | 0 => ("java/lang/String", "value", "[B", true)
  | 1 => ("java/lang/String", "coder", "B", true)
  | 2 => ("java/lang/String", "hash", "I", false)
  | _ => ("java/lang/String", "hashIsZero", "Z", false)
def tyJ0 : Nat → FieldType := fun k => match k with
  | 0 => .array .byte
  | 1 => .byte
  | 2 => .int
  | _ => .boolean
abbrev wsJ00 : List Cond := u_ws RJ0 TJ0 4
theorem nmJ0 : ∀ a, a < 4 → ∀ b, b < 4 → a ≠ b → (TJ0 a).2.1 ≠ (TJ0 b).2.1 := by decide +kernel
theorem tyJ0_ok : ∀ k, k < 4 → parseFieldDescriptor (TJ0 k).2.2.1 = some (tyJ0 k) := by decide +kernel
abbrev cJ0_init_81219 : ByteArray := prog_20_method_53_code
def yJ0_init_81219 : MethodName := ⟨RJ0, "<init>", "(Ljava/lang/StringBuilder;)V"⟩
abbrev cJ0_length_8abf5 : ByteArray := prog_20_method_54_code
def yJ0_length_8abf5 : MethodName := ⟨RJ0, "length", "()I"⟩
abbrev cJ0_charAt_5068e : ByteArray := prog_20_method_56_code
def yJ0_charAt_5068e : MethodName := ⟨RJ0, "charAt", "(I)C"⟩
abbrev cJ0_getBytes_840e7 : ByteArray := prog_20_method_147_code
def yJ0_getBytes_840e7 : MethodName := ⟨RJ0, "getBytes", "([BIB)V"⟩
abbrev cJ0_init_db425 : ByteArray := prog_20_method_150_code
def yJ0_init_db425 : MethodName := ⟨RJ0, "<init>", "(Ljava/lang/AbstractStringBuilder;Ljava/lang/Void;)V"⟩
abbrev cJ0_coder_7d493 : ByteArray := prog_20_method_152_code
def yJ0_coder_7d493 : MethodName := ⟨RJ0, "coder", "()B"⟩
abbrev cJ0_isLatin1_aae02 : ByteArray := prog_20_method_154_code
def yJ0_isLatin1_aae02 : MethodName := ⟨RJ0, "isLatin1", "()Z"⟩
abbrev cJ0_checkIndex_df160 : ByteArray := prog_20_method_155_code
def yJ0_checkIndex_df160 : MethodName := ⟨RJ0, "checkIndex", "(II)V"⟩
abbrev cJ0_checkBoundsOffCount_cabcc : ByteArray := prog_20_method_157_code
def yJ0_checkBoundsOffCount_cabcc : MethodName := ⟨RJ0, "checkBoundsOffCount", "(III)I"⟩
abbrev cJ0_checkBoundsBeginEnd_23922 : ByteArray := prog_20_method_158_code
def yJ0_checkBoundsBeginEnd_23922 : MethodName := ⟨RJ0, "checkBoundsBeginEnd", "(III)V"⟩
def RJ4 : String := "java/lang/StringBuilder"
def TJ4 : u_T := fun k => match k with
  | 0 => ("java/lang/AbstractStringBuilder", "value", "[B", false)
  | 1 => ("java/lang/AbstractStringBuilder", "coder", "B", false)
  | 2 => ("java/lang/AbstractStringBuilder", "maybeLatin1", "Z", false)
  | _ => ("java/lang/AbstractStringBuilder", "count", "I", false)
def tyJ4 : Nat → FieldType := fun k => match k with
  | 0 => .array .byte
  | 1 => .byte
  | 2 => .boolean
  | _ => .int
abbrev wsJ40 : List Cond := u_ws RJ4 TJ4 4
theorem nmJ4 : ∀ a, a < 4 → ∀ b, b < 4 → a ≠ b → (TJ4 a).2.1 ≠ (TJ4 b).2.1 := by decide +kernel
theorem tyJ4_ok : ∀ k, k < 4 → parseFieldDescriptor (TJ4 k).2.2.1 = some (tyJ4 k) := by decide +kernel
abbrev cJ4_init_da8c8 : ByteArray := prog_21_method_1_code
def yJ4_init_da8c8 : MethodName := ⟨RJ4, "<init>", "()V"⟩
abbrev cJ4_append_15ec4 : ByteArray := prog_21_method_7_code
def yJ4_append_15ec4 : MethodName := ⟨RJ4, "append", "(Ljava/lang/String;)Ljava/lang/StringBuilder;"⟩
abbrev cJ4_append_bf812 : ByteArray := prog_21_method_15_code
def yJ4_append_bf812 : MethodName := ⟨RJ4, "append", "(I)Ljava/lang/StringBuilder;"⟩
abbrev cJ4_toString_0e30d : ByteArray := prog_21_method_42_code
def yJ4_toString_0e30d : MethodName := ⟨RJ4, "toString", "()Ljava/lang/String;"⟩
abbrev cJ4_length_8abf5 : ByteArray := prog_21_method_93_code
def yJ4_length_8abf5 : MethodName := ⟨RJ4, "length", "()I"⟩
def RJ1 : String := "java/lang/StringLatin1"
def TJ1 : u_T := fun k => match k with
  | _ => ("", "", "", false)
def tyJ1 : Nat → FieldType := fun k => match k with
  | _ => .int
abbrev wsJ10 : List Cond := u_ws RJ1 TJ1 0
theorem nmJ1 : ∀ a, a < 0 → ∀ b, b < 0 → a ≠ b → (TJ1 a).2.1 ≠ (TJ1 b).2.1 := by decide +kernel
theorem tyJ1_ok : ∀ k, k < 0 → parseFieldDescriptor (TJ1 k).2.2.1 = some (tyJ1 k) := by decide +kernel
abbrev cJ1_charAt_3b067 : ByteArray := prog_22_method_2_code
def yJ1_charAt_3b067 : MethodName := ⟨RJ1, "charAt", "([BI)C"⟩
abbrev cJ1_inflate_0e8fd : ByteArray := prog_22_method_50_code
def yJ1_inflate_0e8fd : MethodName := ⟨RJ1, "inflate", "([BI[BII)V"⟩
def RJ2 : String := "java/lang/StringUTF16"
def TJ2 : u_T := fun k => match k with
  | _ => ("", "", "", false)
def tyJ2 : Nat → FieldType := fun k => match k with
  | _ => .int
abbrev wsJ20 : List Cond := u_ws RJ2 TJ2 0
theorem nmJ2 : ∀ a, a < 0 → ∀ b, b < 0 → a ≠ b → (TJ2 a).2.1 ≠ (TJ2 b).2.1 := by decide +kernel
theorem tyJ2_ok : ∀ k, k < 0 → parseFieldDescriptor (TJ2 k).2.2.1 = some (tyJ2 k) := by decide +kernel
abbrev cJ2_newBytesFor_77867 : ByteArray := prog_23_method_2_code
def yJ2_newBytesFor_77867 : MethodName := ⟨RJ2, "newBytesFor", "(I)[B"⟩
abbrev cJ2_newBytesLength_0f7a4 : ByteArray := prog_23_method_3_code
def yJ2_newBytesLength_0f7a4 : MethodName := ⟨RJ2, "newBytesLength", "(I)I"⟩
abbrev cJ2_putChar_b72d1 : ByteArray := prog_23_method_4_code
def yJ2_putChar_b72d1 : MethodName := ⟨RJ2, "putChar", "([BII)V"⟩
abbrev cJ2_getChar_3b067 : ByteArray := prog_23_method_5_code
def yJ2_getChar_3b067 : MethodName := ⟨RJ2, "getChar", "([BI)C"⟩
abbrev cJ2_length_9d52b : ByteArray := prog_23_method_6_code
def yJ2_length_9d52b : MethodName := ⟨RJ2, "length", "([B)I"⟩
abbrev cJ2_coderFromArrayLen_85cad : ByteArray := prog_23_method_15_code
def yJ2_coderFromArrayLen_85cad : MethodName := ⟨RJ2, "coderFromArrayLen", "([BI)B"⟩
abbrev cJ2_compress_39247 : ByteArray := prog_23_method_17_code
def yJ2_compress_39247 : MethodName := ⟨RJ2, "compress", "([BII)[B"⟩
abbrev cJ2_compress_5af95 : ByteArray := prog_23_method_22_code
def yJ2_compress_5af95 : MethodName := ⟨RJ2, "compress", "([BI[BII)I"⟩
abbrev cJ2_getChars_46870 : ByteArray := prog_23_method_77_code
def yJ2_getChars_46870 : MethodName := ⟨RJ2, "getChars", "(III[B)I"⟩
abbrev cJ2_putCharsAt_cd4e5 : ByteArray := prog_23_method_81_code
def yJ2_putCharsAt_cd4e5 : MethodName := ⟨RJ2, "putCharsAt", "([BICCCC)I"⟩
abbrev cJ2_charAt_3b067 : ByteArray := prog_23_method_83_code
def yJ2_charAt_3b067 : MethodName := ⟨RJ2, "charAt", "([BI)C"⟩
abbrev cJ2_inflate_0e8fd : ByteArray := prog_23_method_86_code
def yJ2_inflate_0e8fd : MethodName := ⟨RJ2, "inflate", "([BI[BII)V"⟩
abbrev cJ2_getChars_ba4f3 : ByteArray := prog_23_method_89_code
def yJ2_getChars_ba4f3 : MethodName := ⟨RJ2, "getChars", "(II[B)I"⟩
abbrev cJ2_checkIndex_2214a : ByteArray := prog_23_method_91_code
def yJ2_checkIndex_2214a : MethodName := ⟨RJ2, "checkIndex", "(I[B)V"⟩
abbrev cJ2_checkBoundsBeginEnd_d044e : ByteArray := prog_23_method_93_code
def yJ2_checkBoundsBeginEnd_d044e : MethodName := ⟨RJ2, "checkBoundsBeginEnd", "(II[B)V"⟩
abbrev cJ2_checkBoundsOffCount_d044e : ByteArray := prog_23_method_94_code
def yJ2_checkBoundsOffCount_d044e : MethodName := ⟨RJ2, "checkBoundsOffCount", "(II[B)V"⟩
def RJ10 : String := "java/lang/System"
def TJ10 : u_T := fun k => match k with
  | _ => ("", "", "", false)
def tyJ10 : Nat → FieldType := fun k => match k with
  | _ => .int
abbrev wsJ100 : List Cond := u_ws RJ10 TJ10 0
theorem nmJ10 : ∀ a, a < 0 → ∀ b, b < 0 → a ≠ b → (TJ10 a).2.1 ≠ (TJ10 b).2.1 := by decide +kernel
theorem tyJ10_ok : ∀ k, k < 0 → parseFieldDescriptor (TJ10 k).2.2.1 = some (tyJ10 k) := by decide +kernel
def RJ7 : String := "java/util/Arrays"
def TJ7 : u_T := fun k => match k with
  | _ => ("", "", "", false)
def tyJ7 : Nat → FieldType := fun k => match k with
  | _ => .int
abbrev wsJ70 : List Cond := u_ws RJ7 TJ7 0
theorem nmJ7 : ∀ a, a < 0 → ∀ b, b < 0 → a ≠ b → (TJ7 a).2.1 ≠ (TJ7 b).2.1 := by decide +kernel
theorem tyJ7_ok : ∀ k, k < 0 → parseFieldDescriptor (TJ7 k).2.2.1 = some (tyJ7 k) := by decide +kernel
abbrev cJ7_copyOf_9075b : ByteArray := prog_26_method_121_code
def yJ7_copyOf_9075b : MethodName := ⟨RJ7, "copyOf", "([BI)[B"⟩
abbrev cJ7_checkLength_df160 : ByteArray := prog_26_method_131_code
def yJ7_checkLength_df160 : MethodName := ⟨RJ7, "checkLength", "(II)V"⟩
abbrev cJ7_copyOfRange_39247 : ByteArray := prog_26_method_132_code
def yJ7_copyOfRange_39247 : MethodName := ⟨RJ7, "copyOfRange", "([BII)[B"⟩
abbrev cJ7_copyOfRangeByte_39247 : ByteArray := prog_26_method_133_code
def yJ7_copyOfRangeByte_39247 : MethodName := ⟨RJ7, "copyOfRangeByte", "([BII)[B"⟩
def RJ8 : String := "jdk/internal/util/ArraysSupport"
def TJ8 : u_T := fun k => match k with
  | _ => ("", "", "", false)
def tyJ8 : Nat → FieldType := fun k => match k with
  | _ => .int
abbrev wsJ80 : List Cond := u_ws RJ8 TJ8 0
theorem nmJ8 : ∀ a, a < 0 → ∀ b, b < 0 → a ≠ b → (TJ8 a).2.1 ≠ (TJ8 b).2.1 := by decide +kernel
theorem tyJ8_ok : ∀ k, k < 0 → parseFieldDescriptor (TJ8 k).2.2.1 = some (tyJ8 k) := by decide +kernel
abbrev cJ8_newLength_cabcc : ByteArray := prog_27_method_27_code
def yJ8_newLength_cabcc : MethodName := ⟨RJ8, "newLength", "(III)I"⟩
abbrev cJ8_hugeLength_7cf53 : ByteArray := prog_27_method_28_code
def yJ8_hugeLength_7cf53 : MethodName := ⟨RJ8, "hugeLength", "(II)I"⟩
def RJ3 : String := "jdk/internal/util/Preconditions"
def TJ3 : u_T := fun k => match k with
  | _ => ("", "", "", false)
def tyJ3 : Nat → FieldType := fun k => match k with
  | _ => .int
abbrev wsJ30 : List Cond := u_ws RJ3 TJ3 0
theorem nmJ3 : ∀ a, a < 0 → ∀ b, b < 0 → a ≠ b → (TJ3 a).2.1 ≠ (TJ3 b).2.1 := by decide +kernel
theorem tyJ3_ok : ∀ k, k < 0 → parseFieldDescriptor (TJ3 k).2.2.1 = some (tyJ3 k) := by decide +kernel
abbrev cJ3_checkIndex_8e157 : ByteArray := prog_28_method_11_code
def yJ3_checkIndex_8e157 : MethodName := ⟨RJ3, "checkIndex", "(IILjava/util/function/BiFunction;)I"⟩
abbrev cJ3_checkFromToIndex_8c36e : ByteArray := prog_28_method_12_code
def yJ3_checkFromToIndex_8c36e : MethodName := ⟨RJ3, "checkFromToIndex", "(IIILjava/util/function/BiFunction;)I"⟩
abbrev cJ3_checkFromIndexSize_8c36e : ByteArray := prog_28_method_13_code
def yJ3_checkFromIndexSize_8c36e : MethodName := ⟨RJ3, "checkFromIndexSize", "(IIILjava/util/function/BiFunction;)I"⟩
def RL : String := "SheetFolderLaw"
def TL : u_T := fun k => match k with
  | 0 => ("SheetFolderLaw", "choices", "[I", false)
  | 1 => ("SheetFolderLaw", "at", "I", false)
  | 2 => ("SheetFolderLaw", "bends", "I", false)
  | 3 => ("SheetFolderLaw", "length", "[I", true)
  | 4 => ("SheetFolderLaw", "isUp", "[Z", true)
  | 5 => ("SheetFolderLaw", "beam", "I", false)
  | 6 => ("SheetFolderLaw", "wing", "I", false)
  | 7 => ("SheetFolderLaw", "flange", "I", false)
  | _ => ("SheetFolderLaw", "most", "I", false)
def tyL : Nat → FieldType := fun k => match k with
  | 0 => .array .int
  | 1 => .int
  | 2 => .int
  | 3 => .array .int
  | 4 => .array .boolean
  | 5 => .int
  | 6 => .int
  | 7 => .int
  | _ => .int
theorem nmL : ∀ a, a < 9 → ∀ b, b < 9 → a ≠ b → (TL a).2.1 ≠ (TL b).2.1 := by decide +kernel
theorem tyL_ok : ∀ k, k < 9 → parseFieldDescriptor (TL k).2.2.1 = some (tyL k) := by decide +kernel
abbrev cL_init : ByteArray := method_1_code
def yL_init : MethodName := ⟨RL, "<init>", "()V"⟩
abbrev cL_among : ByteArray := method_2_code
def yL_among : MethodName := ⟨RL, "among", "(II)I"⟩
abbrev cL_cell : ByteArray := method_3_code
def yL_cell : MethodName := ⟨RL, "cell", "([II)I"⟩
abbrev cL_four : ByteArray := method_4_code
def yL_four : MethodName := ⟨RL, "four", "(Ljava/lang/String;I)I"⟩
abbrev cL_load : ByteArray := method_5_code
def yL_load : MethodName := ⟨RL, "load", "(LSheetFolder;Ljava/lang/String;)I"⟩
abbrev cL_chosen : ByteArray := method_6_code
def yL_chosen : MethodName := ⟨RL, "chosen", "(I)I"⟩
abbrev cL_text : ByteArray := method_7_code
def yL_text : MethodName := ⟨RL, "text", "(Ljava/lang/String;)Ljava/lang/String;"⟩
abbrev cL_law : ByteArray := code
def yL_law : MethodName := ⟨RL, "law", "([I)Z"⟩
abbrev cL_sum : ByteArray := method_9_code
def yL_sum : MethodName := ⟨RL, "sum", "(II)I"⟩
abbrev cL_isStep : ByteArray := method_10_code
def yL_isStep : MethodName := ⟨RL, "isStep", "(LSheetFolder;II)Z"⟩
abbrev cL_isFinished : ByteArray := method_11_code
def yL_isFinished : MethodName := ⟨RL, "isFinished", "(LSheetFolder;)Z"⟩
abbrev cL_isNoBend : ByteArray := method_12_code
def yL_isNoBend : MethodName := ⟨RL, "isNoBend", "(LSheetFolder;I)Z"⟩
abbrev cL_isNoSide : ByteArray := method_13_code
def yL_isNoSide : MethodName := ⟨RL, "isNoSide", "(LSheetFolder;)Z"⟩
abbrev cL_isNoStep : ByteArray := method_14_code
def yL_isNoStep : MethodName := ⟨RL, "isNoStep", "(LSheetFolder;LSheetFolderLaw;)Z"⟩
abbrev vwCl : List vw_C := [(RJ0, TJ0, 4), (RJ4, TJ4, 4), (RX0, TX0, 3), (RX1, TX1, 18), (RX2, TX2, 9), (RX3, TX3, 13), (RX4, TX4, 9), (RX5, TX5, 0), (RX6, TX6, 9), (RL, TL, 9)]
