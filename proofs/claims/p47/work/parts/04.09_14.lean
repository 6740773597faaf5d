/-! part 09.consts -/
section
theorem bp_m2 : (Int8.ofInt (-2)).toInt32 = -2 := by decide
theorem bp_m3 : (Int8.ofInt (-3)).toInt32 = -3 := by decide
theorem bp_10 : (Int8.ofInt (10)).toInt32 = 10 := by decide
theorem bp_100 : (Int8.ofInt (100)).toInt32 = 100 := by decide
theorem bp_11 : (Int8.ofInt (11)).toInt32 = 11 := by decide
theorem bp_118 : (Int8.ofInt (118)).toInt32 = 118 := by decide
theorem bp_122 : (Int8.ofInt (122)).toInt32 = 122 := by decide
theorem bp_16 : (Int8.ofInt (16)).toInt32 = 16 := by decide
theorem bp_17 : (Int8.ofInt (17)).toInt32 = 17 := by decide
theorem bp_19 : (Int8.ofInt (19)).toInt32 = 19 := by decide
theorem bp_20 : (Int8.ofInt (20)).toInt32 = 20 := by decide
theorem bp_24 : (Int8.ofInt (24)).toInt32 = 24 := by decide
theorem bp_32 : (Int8.ofInt (32)).toInt32 = 32 := by decide
theorem bp_36 : (Int8.ofInt (36)).toInt32 = 36 := by decide
theorem bp_37 : (Int8.ofInt (37)).toInt32 = 37 := by decide
theorem bp_38 : (Int8.ofInt (38)).toInt32 = 38 := by decide
theorem bp_39 : (Int8.ofInt (39)).toInt32 = 39 := by decide
theorem bp_40 : (Int8.ofInt (40)).toInt32 = 40 := by decide
theorem bp_42 : (Int8.ofInt (42)).toInt32 = 42 := by decide
theorem bp_45 : (Int8.ofInt (45)).toInt32 = 45 := by decide
theorem bp_48 : (Int8.ofInt (48)).toInt32 = 48 := by decide
theorem bp_49 : (Int8.ofInt (49)).toInt32 = 49 := by decide
theorem bp_50 : (Int8.ofInt (50)).toInt32 = 50 := by decide
theorem bp_51 : (Int8.ofInt (51)).toInt32 = 51 := by decide
theorem bp_52 : (Int8.ofInt (52)).toInt32 = 52 := by decide
theorem bp_53 : (Int8.ofInt (53)).toInt32 = 53 := by decide
theorem bp_54 : (Int8.ofInt (54)).toInt32 = 54 := by decide
theorem bp_57 : (Int8.ofInt (57)).toInt32 = 57 := by decide
theorem bp_59 : (Int8.ofInt (59)).toInt32 = 59 := by decide
theorem bp_6 : (Int8.ofInt (6)).toInt32 = 6 := by decide
theorem bp_60 : (Int8.ofInt (60)).toInt32 = 60 := by decide
theorem bp_63 : (Int8.ofInt (63)).toInt32 = 63 := by decide
theorem bp_7 : (Int8.ofInt (7)).toInt32 = 7 := by decide
theorem bp_8 : (Int8.ofInt (8)).toInt32 = 8 := by decide
theorem bp_86 : (Int8.ofInt (86)).toInt32 = 86 := by decide
theorem bp_9 : (Int8.ofInt (9)).toInt32 = 9 := by decide
theorem bp_94 : (Int8.ofInt (94)).toInt32 = 94 := by decide
theorem bp_97 : (Int8.ofInt (97)).toInt32 = 97 := by decide
theorem bp_99 : (Int8.ofInt (99)).toInt32 = 99 := by decide
theorem ic_m1 : Int32.ofInt (-1) = -1 := by decide
theorem ic_m100 : Int32.ofInt (-100) = -100 := by decide
theorem ic_m8 : Int32.ofInt (-8) = -8 := by decide
theorem ic_0 : Int32.ofInt (0) = 0 := by decide
theorem ic_1 : Int32.ofInt (1) = 1 := by decide
theorem ic_2 : Int32.ofInt (2) = 2 := by decide
theorem ic_3 : Int32.ofInt (3) = 3 := by decide
theorem ic_4 : Int32.ofInt (4) = 4 := by decide
theorem ic_5 : Int32.ofInt (5) = 5 := by decide
theorem sp_200 : (Int16.ofInt (200)).toInt32 = 200 := by decide
theorem sp_2000 : (Int16.ofInt (2000)).toInt32 = 2000 := by decide
theorem sp_255 : (Int16.ofInt (255)).toInt32 = 255 := by decide
theorem sp_256 : (Int16.ofInt (256)).toInt32 = 256 := by decide
theorem sp_300 : (Int16.ofInt (300)).toInt32 = 300 := by decide
theorem sp_400 : (Int16.ofInt (400)).toInt32 = 400 := by decide
theorem sp_600 : (Int16.ofInt (600)).toInt32 = 600 := by decide
theorem sp_860 : (Int16.ofInt (860)).toInt32 = 860 := by decide
theorem sp_900 : (Int16.ofInt (900)).toInt32 = 900 := by decide
theorem sp_999 : (Int16.ofInt (999)).toInt32 = 999 := by decide
theorem sp_9999 : (Int16.ofInt (9999)).toInt32 = 9999 := by decide
theorem q_s1_0 : (Cond.selects "SheetFolder$Planner" ⟨"SheetFolder$Planner", "forgetSteps", "()V"⟩ ⟨"SheetFolder$Planner", "forgetSteps", "()V"⟩) ∈ WA := wa_q sel_1_k 0 rfl rfl
theorem q_s1_1 : (Cond.selects "SheetFolder" ⟨"SheetFolder", "append", "(I)V"⟩ ⟨"SheetFolder", "append", "(I)V"⟩) ∈ WA := wa_q sel_1_k 1 rfl rfl
theorem q_s1_2 : (Cond.selects "SheetFolder$Part" ⟨"SheetFolder$Part", "springBackBetween", "(IID)D"⟩ ⟨"SheetFolder$Part", "springBackBetween", "(IID)D"⟩) ∈ WA := wa_q sel_1_k 2 rfl rfl
theorem q_s1_3 : (Cond.selects "SheetFolder$Places" ⟨"SheetFolder$Places", "walk", "(LSheetFolder$Part;IIIIII)V"⟩ ⟨"SheetFolder$Places", "walk", "(LSheetFolder$Part;IIIIII)V"⟩) ∈ WA := wa_q sel_1_k 3 rfl rfl
theorem q_s1_4 : (Cond.selects "SheetFolder$Places" ⟨"SheetFolder$Places", "touch", "(II)Z"⟩ ⟨"SheetFolder$Places", "touch", "(II)Z"⟩) ∈ WA := wa_q sel_1_k 4 rfl rfl
theorem q_s1_5 : (Cond.selects "SheetFolder$Places" ⟨"SheetFolder$Places", "isClamped", "(I)Z"⟩ ⟨"SheetFolder$Places", "isClamped", "(I)Z"⟩) ∈ WA := wa_q sel_1_k 5 rfl rfl
theorem q_s1_6 : (Cond.selects "SheetFolder$Places" ⟨"SheetFolder$Places", "enters", "(IIIII)Z"⟩ ⟨"SheetFolder$Places", "enters", "(IIIII)Z"⟩) ∈ WA := wa_q sel_1_k 6 rfl rfl
theorem q_s1_7 : (Cond.selects "SheetFolder$Planner" ⟨"SheetFolder$Planner", "reachSets", "(LSheetFolder$Part;)V"⟩ ⟨"SheetFolder$Planner", "reachSets", "(LSheetFolder$Part;)V"⟩) ∈ WA := wa_q sel_1_k 7 rfl rfl
theorem q_s1_8 : (Cond.selects "SheetFolder$Planner" ⟨"SheetFolder$Planner", "findSteps", "(LSheetFolder$Part;I)I"⟩ ⟨"SheetFolder$Planner", "findSteps", "(LSheetFolder$Part;I)I"⟩) ∈ WA := wa_q sel_1_k 8 rfl rfl
theorem q_s1_9 : (Cond.selects "SheetFolder$Planner" ⟨"SheetFolder$Planner", "isOpen", "(II)Z"⟩ ⟨"SheetFolder$Planner", "isOpen", "(II)Z"⟩) ∈ WA := wa_q sel_1_k 9 rfl rfl
theorem q_s1_10 : (Cond.selects "SheetFolder$Planner" ⟨"SheetFolder$Planner", "countOrders", "(LSheetFolder$Part;)V"⟩ ⟨"SheetFolder$Planner", "countOrders", "(LSheetFolder$Part;)V"⟩) ∈ WA := wa_q sel_1_k 10 rfl rfl
theorem q_s1_11 : (Cond.selects "SheetFolder$Planner" ⟨"SheetFolder$Planner", "reckonCosts", "(LSheetFolder$Part;)V"⟩ ⟨"SheetFolder$Planner", "reckonCosts", "(LSheetFolder$Part;)V"⟩) ∈ WA := wa_q sel_1_k 11 rfl rfl
theorem q_s1_12 : (Cond.selects "SheetFolder$Planner" ⟨"SheetFolder$Planner", "reckonCostsBehind", "(LSheetFolder$Part;I)V"⟩ ⟨"SheetFolder$Planner", "reckonCostsBehind", "(LSheetFolder$Part;I)V"⟩) ∈ WA := wa_q sel_1_k 12 rfl rfl
theorem q_s1_13 : (Cond.selects "SheetFolder$Planner" ⟨"SheetFolder$Planner", "costOnward", "(LSheetFolder$Part;IIIZ)I"⟩ ⟨"SheetFolder$Planner", "costOnward", "(LSheetFolder$Part;IIIZ)I"⟩) ∈ WA := wa_q sel_1_k 13 rfl rfl
theorem q_s1_14 : (Cond.selects "SheetFolder$Planner" ⟨"SheetFolder$Planner", "costThrough", "(LSheetFolder$Part;IIIIZ)I"⟩ ⟨"SheetFolder$Planner", "costThrough", "(LSheetFolder$Part;IIIIZ)I"⟩) ∈ WA := wa_q sel_1_k 14 rfl rfl
theorem q_s1_15 : (Cond.selects "SheetFolder$Planner" ⟨"SheetFolder$Planner", "choosePlan", "(LSheetFolder$Part;)V"⟩ ⟨"SheetFolder$Planner", "choosePlan", "(LSheetFolder$Part;)V"⟩) ∈ WA := wa_q sel_1_k 15 rfl rfl
theorem q_s2_0 : (Cond.selects "SheetFolder$Planner" ⟨"SheetFolder$Planner", "smallestStep", "(LSheetFolder$Part;IIII)I"⟩ ⟨"SheetFolder$Planner", "smallestStep", "(LSheetFolder$Part;IIII)I"⟩) ∈ WA := wa_q sel_2_k 0 rfl rfl
theorem q_s2_3 : (Cond.selects "SheetFolder$TextReader" ⟨"SheetFolder$TextReader", "nextToken", "()V"⟩ ⟨"SheetFolder$TextReader", "nextToken", "()V"⟩) ∈ WA := wa_q sel_2_k 3 rfl rfl
theorem q_s2_4 : (Cond.selects "SheetFolder$TextReader" ⟨"SheetFolder$TextReader", "takeWord", "()V"⟩ ⟨"SheetFolder$TextReader", "takeWord", "()V"⟩) ∈ WA := wa_q sel_2_k 4 rfl rfl
theorem q_s2_5 : (Cond.selects "SheetFolder$TextReader" ⟨"SheetFolder$TextReader", "takeNumber", "()V"⟩ ⟨"SheetFolder$TextReader", "takeNumber", "()V"⟩) ∈ WA := wa_q sel_2_k 5 rfl rfl
theorem q_s2_6 : (Cond.selects "SheetFolder$TextReader" ⟨"SheetFolder$TextReader", "readStatement", "(LSheetFolder$Part;)V"⟩ ⟨"SheetFolder$TextReader", "readStatement", "(LSheetFolder$Part;)V"⟩) ∈ WA := wa_q sel_2_k 6 rfl rfl
theorem q_s2_7 : (Cond.selects "SheetFolder$Word" ⟨"SheetFolder$Word", "isSpelled", "([BII)Z"⟩ ⟨"SheetFolder$Word", "isSpelled", "([BII)Z"⟩) ∈ WA := wa_q sel_2_k 7 rfl rfl
theorem q_s2_8 : (Cond.selects "SheetFolder$TextReader" ⟨"SheetFolder$TextReader", "errorIfNot", "(II)I"⟩ ⟨"SheetFolder$TextReader", "errorIfNot", "(II)I"⟩) ∈ WA := wa_q sel_2_k 8 rfl rfl
theorem q_s2_9 : (Cond.selects "SheetFolder$TextReader" ⟨"SheetFolder$TextReader", "errorOfNumber", "(LSheetFolder$Word;ILSheetFolder$Part;)I"⟩ ⟨"SheetFolder$TextReader", "errorOfNumber", "(LSheetFolder$Word;ILSheetFolder$Part;)I"⟩) ∈ WA := wa_q sel_2_k 9 rfl rfl
theorem q_s2_10 : (Cond.selects "SheetFolder$TextReader" ⟨"SheetFolder$TextReader", "accept", "(LSheetFolder$Word;LSheetFolder$Part;)V"⟩ ⟨"SheetFolder$TextReader", "accept", "(LSheetFolder$Word;LSheetFolder$Part;)V"⟩) ∈ WA := wa_q sel_2_k 10 rfl rfl
theorem q_s2_11 : (Cond.selects "SheetFolder" ⟨"SheetFolder", "requireLeg", "(I)V"⟩ ⟨"SheetFolder", "requireLeg", "(I)V"⟩) ∈ WA := wa_q sel_2_k 11 rfl rfl
theorem q_s2_12 : (Cond.selects "SheetFolder" ⟨"SheetFolder", "requireBend", "(I)V"⟩ ⟨"SheetFolder", "requireBend", "(I)V"⟩) ∈ WA := wa_q sel_2_k 12 rfl rfl
theorem q_s2_13 : (Cond.selects "SheetFolder" ⟨"SheetFolder", "requireStep", "(II)V"⟩ ⟨"SheetFolder", "requireStep", "(II)V"⟩) ∈ WA := wa_q sel_2_k 13 rfl rfl
theorem q_s2_14 : (Cond.selects "SheetFolder" ⟨"SheetFolder", "reasonNow", "(I)I"⟩ ⟨"SheetFolder", "reasonNow", "(I)I"⟩) ∈ WA := wa_q sel_2_k 14 rfl rfl
theorem q_s2_15 : (Cond.selects "SheetFolder" ⟨"SheetFolder", "gaugeNow", "(I)I"⟩ ⟨"SheetFolder", "gaugeNow", "(I)I"⟩) ∈ WA := wa_q sel_2_k 15 rfl rfl
theorem q_s3_0 : (Cond.selects "SheetFolder" ⟨"SheetFolder", "costNow", "(I)I"⟩ ⟨"SheetFolder", "costNow", "(I)I"⟩) ∈ WA := wa_q sel_3_k 0 rfl rfl
theorem q_s3_1 : (Cond.selects "SheetFolder" ⟨"SheetFolder", "requireFlat", "()V"⟩ ⟨"SheetFolder", "requireFlat", "()V"⟩) ∈ WA := wa_q sel_3_k 1 rfl rfl
theorem q_s3_2 : (Cond.selects "SheetFolder" ⟨"SheetFolder", "makeStep", "(I)I"⟩ ⟨"SheetFolder", "makeStep", "(I)I"⟩) ∈ WA := wa_q sel_3_k 2 rfl rfl
theorem q_s3_3 : (Cond.selects "SheetFolderModel" ⟨"SheetFolderModel", "reset", "()V"⟩ ⟨"SheetFolderModel", "reset", "()V"⟩) ∈ WA := wa_q sel_3_k 3 rfl rfl
theorem q_s3_4 : (Cond.selects "SheetFolderModel" ⟨"SheetFolderModel", "lay", "(IIII)V"⟩ ⟨"SheetFolderModel", "lay", "(IIII)V"⟩) ∈ WA := wa_q sel_3_k 4 rfl rfl
theorem q_s3_5 : (Cond.selects "SheetFolderModel" ⟨"SheetFolderModel", "append", "(I)V"⟩ ⟨"SheetFolderModel", "append", "(I)V"⟩) ∈ WA := wa_q sel_3_k 5 rfl rfl
theorem q_s3_6 : (Cond.selects "SheetFolderModel" ⟨"SheetFolderModel", "advance", "()Z"⟩ ⟨"SheetFolderModel", "advance", "()Z"⟩) ∈ WA := wa_q sel_3_k 6 rfl rfl
theorem q_s3_7 : (Cond.selects "SheetFolderModel" ⟨"SheetFolderModel", "byteAt", "(I)I"⟩ ⟨"SheetFolderModel", "byteAt", "(I)I"⟩) ∈ WA := wa_q sel_3_k 7 rfl rfl
theorem q_s3_8 : (Cond.selects "SheetFolderModel" ⟨"SheetFolderModel", "statement", "()Z"⟩ ⟨"SheetFolderModel", "statement", "()Z"⟩) ∈ WA := wa_q sel_3_k 8 rfl rfl
theorem q_s3_9 : (Cond.selects "SheetFolderModel" ⟨"SheetFolderModel", "isWord", "(Ljava/lang/String;)Z"⟩ ⟨"SheetFolderModel", "isWord", "(Ljava/lang/String;)Z"⟩) ∈ WA := wa_q sel_3_k 9 rfl rfl
theorem q_s3_10 : (Cond.selects "SheetFolderModel" ⟨"SheetFolderModel", "sheetStatement", "()Z"⟩ ⟨"SheetFolderModel", "sheetStatement", "()Z"⟩) ∈ WA := wa_q sel_3_k 10 rfl rfl
theorem q_s3_11 : (Cond.selects "SheetFolderModel" ⟨"SheetFolderModel", "number", "(III)Z"⟩ ⟨"SheetFolderModel", "number", "(III)Z"⟩) ∈ WA := wa_q sel_3_k 11 rfl rfl
theorem q_s3_12 : (Cond.selects "SheetFolderModel" ⟨"SheetFolderModel", "fail", "(I)Z"⟩ ⟨"SheetFolderModel", "fail", "(I)Z"⟩) ∈ WA := wa_q sel_3_k 12 rfl rfl
theorem q_s3_13 : (Cond.selects "SheetFolderModel" ⟨"SheetFolderModel", "legStatement", "()Z"⟩ ⟨"SheetFolderModel", "legStatement", "()Z"⟩) ∈ WA := wa_q sel_3_k 13 rfl rfl
theorem q_s3_14 : (Cond.selects "SheetFolderModel" ⟨"SheetFolderModel", "bendStatement", "(Z)Z"⟩ ⟨"SheetFolderModel", "bendStatement", "(Z)Z"⟩) ∈ WA := wa_q sel_3_k 14 rfl rfl
theorem q_s3_15 : (Cond.selects "SheetFolderModel" ⟨"SheetFolderModel", "backStatement", "()Z"⟩ ⟨"SheetFolderModel", "backStatement", "()Z"⟩) ∈ WA := wa_q sel_3_k 15 rfl rfl
theorem q_s4_0 : (Cond.selects "SheetFolderModel" ⟨"SheetFolderModel", "costStatement", "()Z"⟩ ⟨"SheetFolderModel", "costStatement", "()Z"⟩) ∈ WA := wa_q sel_4_k 0 rfl rfl
theorem q_s4_1 : (Cond.selects "SheetFolderModel" ⟨"SheetFolderModel", "toolHere", "()I"⟩ ⟨"SheetFolderModel", "toolHere", "()I"⟩) ∈ WA := wa_q sel_4_k 1 rfl rfl
theorem q_s4_2 : (Cond.selects "SheetFolderModel" ⟨"SheetFolderModel", "toolStatement", "(I)Z"⟩ ⟨"SheetFolderModel", "toolStatement", "(I)Z"⟩) ∈ WA := wa_q sel_4_k 2 rfl rfl
theorem q_s4_3 : (Cond.selects "SheetFolderModel" ⟨"SheetFolderModel", "closed", "()Z"⟩ ⟨"SheetFolderModel", "closed", "()Z"⟩) ∈ WA := wa_q sel_4_k 3 rfl rfl
theorem q_s4_4 : (Cond.selects "SheetFolderModel" ⟨"SheetFolderModel", "tellNow", "(I)I"⟩ ⟨"SheetFolderModel", "tellNow", "(I)I"⟩) ∈ WA := wa_q sel_4_k 4 rfl rfl
theorem q_s4_5 : (Cond.selects "SheetFolderModel" ⟨"SheetFolderModel", "isLeg", "(I)Z"⟩ ⟨"SheetFolderModel", "isLeg", "(I)Z"⟩) ∈ WA := wa_q sel_4_k 5 rfl rfl
theorem q_s4_6 : (Cond.selects "SheetFolderModel" ⟨"SheetFolderModel", "good", "(Z)Z"⟩ ⟨"SheetFolderModel", "good", "(Z)Z"⟩) ∈ WA := wa_q sel_4_k 6 rfl rfl
theorem q_s4_7 : (Cond.selects "SheetFolderModel" ⟨"SheetFolderModel", "isBend", "(I)Z"⟩ ⟨"SheetFolderModel", "isBend", "(I)Z"⟩) ∈ WA := wa_q sel_4_k 7 rfl rfl
theorem q_s4_8 : (Cond.selects "SheetFolderModel" ⟨"SheetFolderModel", "deductionNow", "()D"⟩ ⟨"SheetFolderModel", "deductionNow", "()D"⟩) ∈ WA := wa_q sel_4_k 8 rfl rfl
theorem q_s4_9 : (Cond.selects "SheetFolderModel" ⟨"SheetFolderModel", "sumOfLegs", "(I)I"⟩ ⟨"SheetFolderModel", "sumOfLegs", "(I)I"⟩) ∈ WA := wa_q sel_4_k 9 rfl rfl
theorem q_s4_10 : (Cond.selects "SheetFolderModel" ⟨"SheetFolderModel", "ratioNow", "()D"⟩ ⟨"SheetFolderModel", "ratioNow", "()D"⟩) ∈ WA := wa_q sel_4_k 10 rfl rfl
theorem q_s4_11 : (Cond.selects "SheetFolderModel" ⟨"SheetFolderModel", "springBy", "(D)D"⟩ ⟨"SheetFolderModel", "springBy", "(D)D"⟩) ∈ WA := wa_q sel_4_k 11 rfl rfl
theorem q_s4_12 : (Cond.selects "SheetFolderModel" ⟨"SheetFolderModel", "ratioOf", "(I)D"⟩ ⟨"SheetFolderModel", "ratioOf", "(I)D"⟩) ∈ WA := wa_q sel_4_k 12 rfl rfl
theorem q_s4_13 : (Cond.selects "SheetFolderModel" ⟨"SheetFolderModel", "angleOf", "(I)D"⟩ ⟨"SheetFolderModel", "angleOf", "(I)D"⟩) ∈ WA := wa_q sel_4_k 13 rfl rfl
theorem q_s4_14 : (Cond.selects "SheetFolderModel" ⟨"SheetFolderModel", "isMirrored", "(II)Z"⟩ ⟨"SheetFolderModel", "isMirrored", "(II)Z"⟩) ∈ WA := wa_q sel_4_k 14 rfl rfl
theorem q_s4_15 : (Cond.selects "SheetFolderModel" ⟨"SheetFolderModel", "layFinished", "()V"⟩ ⟨"SheetFolderModel", "layFinished", "()V"⟩) ∈ WA := wa_q sel_4_k 15 rfl rfl
theorem q_s5_0 : (Cond.selects "SheetFolderModel" ⟨"SheetFolderModel", "layLeg", "(II)V"⟩ ⟨"SheetFolderModel", "layLeg", "(II)V"⟩) ∈ WA := wa_q sel_5_k 0 rfl rfl
theorem q_s5_1 : (Cond.selects "SheetFolderModel" ⟨"SheetFolderModel", "isCrossed", "()Z"⟩ ⟨"SheetFolderModel", "isCrossed", "()Z"⟩) ∈ WA := wa_q sel_5_k 1 rfl rfl
theorem q_s5_2 : (Cond.selects "SheetFolderModel" ⟨"SheetFolderModel", "good", "(ZZ)Z"⟩ ⟨"SheetFolderModel", "good", "(ZZ)Z"⟩) ∈ WA := wa_q sel_5_k 2 rfl rfl
theorem q_s5_3 : (Cond.selects "SheetFolderModel" ⟨"SheetFolderModel", "stepOf", "(II)I"⟩ ⟨"SheetFolderModel", "stepOf", "(II)I"⟩) ∈ WA := wa_q sel_5_k 3 rfl rfl
theorem q_s5_4 : (Cond.selects "SheetFolderModel" ⟨"SheetFolderModel", "sumOfCosts", "()I"⟩ ⟨"SheetFolderModel", "sumOfCosts", "()I"⟩) ∈ WA := wa_q sel_5_k 4 rfl rfl
theorem q_s5_5 : (Cond.selects "SheetFolderModel" ⟨"SheetFolderModel", "reasonOf", "(III)I"⟩ ⟨"SheetFolderModel", "reasonOf", "(III)I"⟩) ∈ WA := wa_q sel_5_k 5 rfl rfl
theorem q_s5_6 : (Cond.selects "SheetFolderModel" ⟨"SheetFolderModel", "isShort", "(II)Z"⟩ ⟨"SheetFolderModel", "isShort", "(II)Z"⟩) ∈ WA := wa_q sel_5_k 6 rfl rfl
theorem q_s5_7 : (Cond.selects "SheetFolderModel" ⟨"SheetFolderModel", "toolOf", "(II)I"⟩ ⟨"SheetFolderModel", "toolOf", "(II)I"⟩) ∈ WA := wa_q sel_5_k 7 rfl rfl
theorem q_s5_8 : (Cond.selects "SheetFolderModel" ⟨"SheetFolderModel", "laySheet", "(III)V"⟩ ⟨"SheetFolderModel", "laySheet", "(III)V"⟩) ∈ WA := wa_q sel_5_k 8 rfl rfl
theorem q_s5_9 : (Cond.selects "SheetFolderModel" ⟨"SheetFolderModel", "laySide", "(IIIIZI)V"⟩ ⟨"SheetFolderModel", "laySide", "(IIIIZI)V"⟩) ∈ WA := wa_q sel_5_k 9 rfl rfl
theorem q_s5_10 : (Cond.selects "SheetFolderModel" ⟨"SheetFolderModel", "isGaugeLaid", "(II)Z"⟩ ⟨"SheetFolderModel", "isGaugeLaid", "(II)Z"⟩) ∈ WA := wa_q sel_5_k 10 rfl rfl
theorem q_s5_11 : (Cond.selects "SheetFolderModel" ⟨"SheetFolderModel", "gaugeLaid", "(II)I"⟩ ⟨"SheetFolderModel", "gaugeLaid", "(II)I"⟩) ∈ WA := wa_q sel_5_k 11 rfl rfl
theorem q_s5_12 : (Cond.selects "SheetFolderModel" ⟨"SheetFolderModel", "isClamped", "(III)Z"⟩ ⟨"SheetFolderModel", "isClamped", "(III)Z"⟩) ∈ WA := wa_q sel_5_k 12 rfl rfl
theorem q_s5_13 : (Cond.selects "SheetFolderModel" ⟨"SheetFolderModel", "hittingLaid", "(IIZZ)I"⟩ ⟨"SheetFolderModel", "hittingLaid", "(IIZZ)I"⟩) ∈ WA := wa_q sel_5_k 13 rfl rfl
theorem q_s5_14 : (Cond.selects "SheetFolderModel" ⟨"SheetFolderModel", "hits", "(IZ)Z"⟩ ⟨"SheetFolderModel", "hits", "(IZ)Z"⟩) ∈ WA := wa_q sel_5_k 14 rfl rfl
theorem q_s5_15 : (Cond.selects "SheetFolderModel" ⟨"SheetFolderModel", "hitsBeam", "(I)Z"⟩ ⟨"SheetFolderModel", "hitsBeam", "(I)Z"⟩) ∈ WA := wa_q sel_5_k 15 rfl rfl
theorem q_s6_0 : (Cond.selects "SheetFolderModel" ⟨"SheetFolderModel", "isInside", "(IIIII)Z"⟩ ⟨"SheetFolderModel", "isInside", "(IIIII)Z"⟩) ∈ WA := wa_q sel_6_k 0 rfl rfl
theorem q_s6_1 : (Cond.selects "SheetFolderModel" ⟨"SheetFolderModel", "hitsTable", "(I)Z"⟩ ⟨"SheetFolderModel", "hitsTable", "(I)Z"⟩) ∈ WA := wa_q sel_6_k 1 rfl rfl
theorem q_s6_2 : (Cond.selects "SheetFolderModel" ⟨"SheetFolderModel", "hitsWing", "(I)Z"⟩ ⟨"SheetFolderModel", "hitsWing", "(I)Z"⟩) ∈ WA := wa_q sel_6_k 2 rfl rfl
theorem q_s6_3 : (Cond.selects "SheetFolderModel" ⟨"SheetFolderModel", "gaugeOf", "(III)I"⟩ ⟨"SheetFolderModel", "gaugeOf", "(III)I"⟩) ∈ WA := wa_q sel_6_k 3 rfl rfl
theorem q_s6_4 : (Cond.selects "SheetFolderModel" ⟨"SheetFolderModel", "costNow", "(II)I"⟩ ⟨"SheetFolderModel", "costNow", "(II)I"⟩) ∈ WA := wa_q sel_6_k 4 rfl rfl
theorem q_s6_5 : (Cond.selects "SheetFolderModel" ⟨"SheetFolderModel", "costBehind", "(IIIIII)I"⟩ ⟨"SheetFolderModel", "costBehind", "(IIIIII)I"⟩) ∈ WA := wa_q sel_6_k 5 rfl rfl
theorem q_s6_6 : (Cond.selects "SheetFolderModel" ⟨"SheetFolderModel", "layOrders", "()V"⟩ ⟨"SheetFolderModel", "layOrders", "()V"⟩) ∈ WA := wa_q sel_6_k 6 rfl rfl
theorem q_s6_7 : (Cond.selects "SheetFolderModel" ⟨"SheetFolderModel", "full", "()I"⟩ ⟨"SheetFolderModel", "full", "()I"⟩) ∈ WA := wa_q sel_6_k 7 rfl rfl
theorem q_s6_8 : (Cond.selects "SheetFolderModel" ⟨"SheetFolderModel", "isBehind", "(I)Z"⟩ ⟨"SheetFolderModel", "isBehind", "(I)Z"⟩) ∈ WA := wa_q sel_6_k 8 rfl rfl
theorem q_s6_9 : (Cond.selects "SheetFolderModel" ⟨"SheetFolderModel", "leastNow", "()I"⟩ ⟨"SheetFolderModel", "leastNow", "()I"⟩) ∈ WA := wa_q sel_6_k 9 rfl rfl
theorem q_s6_10 : (Cond.selects "SheetFolderModel" ⟨"SheetFolderModel", "layCosts", "()V"⟩ ⟨"SheetFolderModel", "layCosts", "()V"⟩) ∈ WA := wa_q sel_6_k 10 rfl rfl
theorem q_s6_11 : (Cond.selects "SheetFolderModel" ⟨"SheetFolderModel", "layCost", "(II)V"⟩ ⟨"SheetFolderModel", "layCost", "(II)V"⟩) ∈ WA := wa_q sel_6_k 11 rfl rfl
theorem q_s6_12 : (Cond.selects "SheetFolderModel" ⟨"SheetFolderModel", "gaugeLast", "(II)I"⟩ ⟨"SheetFolderModel", "gaugeLast", "(II)I"⟩) ∈ WA := wa_q sel_6_k 12 rfl rfl
theorem q_s6_13 : (Cond.selects "SheetFolderModel" ⟨"SheetFolderModel", "isOrder", "()Z"⟩ ⟨"SheetFolderModel", "isOrder", "()Z"⟩) ∈ WA := wa_q sel_6_k 13 rfl rfl
theorem q_s6_14 : (Cond.selects "SheetFolderModel" ⟨"SheetFolderModel", "lastNow", "()I"⟩ ⟨"SheetFolderModel", "lastNow", "()I"⟩) ∈ WA := wa_q sel_6_k 14 rfl rfl
theorem q_s6_15 : (Cond.selects "SheetFolderModel" ⟨"SheetFolderModel", "unmade", "()I"⟩ ⟨"SheetFolderModel", "unmade", "()I"⟩) ∈ WA := wa_q sel_6_k 15 rfl rfl
theorem q_s7_0 : (Cond.selects "SheetFolderModel" ⟨"SheetFolderModel", "bestStep", "(II)I"⟩ ⟨"SheetFolderModel", "bestStep", "(II)I"⟩) ∈ WA := wa_q sel_7_k 0 rfl rfl
theorem q_s7_1 : (Cond.selects "SheetFolderModel" ⟨"SheetFolderModel", "layReached", "()V"⟩ ⟨"SheetFolderModel", "layReached", "()V"⟩) ∈ WA := wa_q sel_7_k 1 rfl rfl
theorem q_s7_2 : (Cond.selects "SheetFolderModel" ⟨"SheetFolderModel", "good", "(ZZZ)Z"⟩ ⟨"SheetFolderModel", "good", "(ZZZ)Z"⟩) ∈ WA := wa_q sel_7_k 2 rfl rfl
theorem q_s7_3 : (Cond.selects "SheetFolderModel" ⟨"SheetFolderModel", "foldNow", "(II)I"⟩ ⟨"SheetFolderModel", "foldNow", "(II)I"⟩) ∈ WA := wa_q sel_7_k 3 rfl rfl
theorem q_s7_4 : (Cond.selects "SheetFolderModel" ⟨"SheetFolderModel", "remember", "()V"⟩ ⟨"SheetFolderModel", "remember", "()V"⟩) ∈ WA := wa_q sel_7_k 4 rfl rfl
theorem q_s7_5 : (Cond.selects "SheetFolderModel" ⟨"SheetFolderModel", "set", "(II)I"⟩ ⟨"SheetFolderModel", "set", "(II)I"⟩) ∈ WA := wa_q sel_7_k 5 rfl rfl
theorem q_s7_6 : (Cond.selects "SheetFolderModel" ⟨"SheetFolderModel", "putNumber", "(I)V"⟩ ⟨"SheetFolderModel", "putNumber", "(I)V"⟩) ∈ WA := wa_q sel_7_k 6 rfl rfl
theorem q_s7_7 : (Cond.selects "SheetFolderModel" ⟨"SheetFolderModel", "put", "(I)V"⟩ ⟨"SheetFolderModel", "put", "(I)V"⟩) ∈ WA := wa_q sel_7_k 7 rfl rfl
theorem q_s7_8 : (Cond.selects "SheetFolderModel" ⟨"SheetFolderModel", "putBend", "(I)V"⟩ ⟨"SheetFolderModel", "putBend", "(I)V"⟩) ∈ WA := wa_q sel_7_k 8 rfl rfl
theorem q_s7_9 : (Cond.selects "SheetFolderModel" ⟨"SheetFolderModel", "putCost", "()V"⟩ ⟨"SheetFolderModel", "putCost", "()V"⟩) ∈ WA := wa_q sel_7_k 9 rfl rfl
theorem q_t1_1 : (Cond.initialized "SheetFolder") ∈ WA := wa_q tbl_1 1 rfl rfl
theorem q_t1_2 : (Cond.initialized "SheetFolder$TextReader") ∈ WA := wa_q tbl_1 2 rfl rfl
theorem q_t1_3 : (Cond.initialized "SheetFolder$Part") ∈ WA := wa_q tbl_1 3 rfl rfl
theorem q_t1_4 : (Cond.initialized "SheetFolder$History") ∈ WA := wa_q tbl_1 4 rfl rfl
theorem q_t1_5 : (Cond.initialized "SheetFolder$Places") ∈ WA := wa_q tbl_1 5 rfl rfl
theorem q_t1_6 : (Cond.initialized "SheetFolder$Planner") ∈ WA := wa_q tbl_1 6 rfl rfl
theorem q_t1_9 : (Cond.initialized "java/lang/String") ∈ WA := wa_q tbl_1 9 rfl rfl
theorem q_t1_11 : (Cond.initialized "SheetFolderModel") ∈ WA := wa_q tbl_1 11 rfl rfl
theorem q_t1_15 : (Cond.initialized "java/lang/IllegalArgumentException") ∈ WA := wa_q tbl_1 15 rfl rfl
theorem q_t1_17 : (Cond.initialized "SheetFolder$Word") ∈ WA := wa_q tbl_1 17 rfl rfl
theorem q_t1_18 : (Cond.initialized "java/lang/StringLatin1") ∈ WA := wa_q tbl_1 18 rfl rfl
theorem q_t1_19 : (Cond.initialized "jdk/internal/util/Preconditions") ∈ WA := wa_q tbl_1 19 rfl rfl
theorem q_t1_20 : (Cond.initialized "java/lang/System") ∈ WA := wa_q tbl_1 20 rfl rfl
theorem q_t1_21 : (Cond.initialized "java/lang/IndexOutOfBoundsException") ∈ WA := wa_q tbl_1 21 rfl rfl
theorem q_t1_22 : (Cond.initialized "java/lang/Math") ∈ WA := wa_q tbl_1 22 rfl rfl
theorem q_t1_23 : (Cond.initialized "java/lang/Integer") ∈ WA := wa_q tbl_1 23 rfl rfl
theorem q_t1_24 : (Cond.initialized "java/lang/IllegalStateException") ∈ WA := wa_q tbl_1 24 rfl rfl
theorem q_t1_43 : (Cond.fieldLink "SheetFolder$TextReader" 9 "SheetFolder$TextReader" "kindOfError" "I") ∈ WA := wa_q tbl_1 43 rfl rfl
theorem q_t1_44 : (Cond.fieldLink "SheetFolder" 88 "SheetFolder$TextReader" "kindOfError" "I") ∈ WA := wa_q tbl_1 44 rfl rfl
theorem q_t1_45 : (Cond.fieldLink "SheetFolder$TextReader" 15 "SheetFolder$TextReader" "placeOfError" "I") ∈ WA := wa_q tbl_1 45 rfl rfl
theorem q_t1_46 : (Cond.fieldLink "SheetFolder" 91 "SheetFolder$TextReader" "placeOfError" "I") ∈ WA := wa_q tbl_1 46 rfl rfl
theorem q_t1_47 : (Cond.fieldLink "SheetFolder$TextReader" 18 "SheetFolder$TextReader" "bytes" "[B") ∈ WA := wa_q tbl_1 47 rfl rfl
theorem q_t1_48 : (Cond.fieldLink "SheetFolder$TextReader" 22 "SheetFolder$TextReader" "length" "I") ∈ WA := wa_q tbl_1 48 rfl rfl
theorem q_t1_49 : (Cond.fieldLink "SheetFolder$TextReader" 25 "SheetFolder$TextReader" "tokenFrom" "I") ∈ WA := wa_q tbl_1 49 rfl rfl
theorem q_t1_50 : (Cond.fieldLink "SheetFolder$TextReader" 28 "SheetFolder$TextReader" "tokenTo" "I") ∈ WA := wa_q tbl_1 50 rfl rfl
theorem q_t1_51 : (Cond.fieldLink "SheetFolder$TextReader" 31 "SheetFolder$TextReader" "token" "I") ∈ WA := wa_q tbl_1 51 rfl rfl
theorem q_t1_52 : (Cond.fieldLink "SheetFolder$TextReader" 34 "SheetFolder$TextReader" "tokenNumber" "I") ∈ WA := wa_q tbl_1 52 rfl rfl
theorem q_t1_53 : (Cond.fieldLink "SheetFolder$TextReader" 39 "SheetFolder$TextReader" "numbers" "[I") ∈ WA := wa_q tbl_1 53 rfl rfl
theorem q_t1_54 : (Cond.lays "SheetFolder$TextReader" "SheetFolder$TextReader" "kindOfError" "I") ∈ WA := wa_q tbl_1 54 rfl rfl
theorem q_t1_56 : (Cond.lays "SheetFolder$TextReader" "SheetFolder$TextReader" "placeOfError" "I") ∈ WA := wa_q tbl_1 56 rfl rfl
theorem q_t1_58 : (Cond.lays "SheetFolder$TextReader" "SheetFolder$TextReader" "bytes" "[B") ∈ WA := wa_q tbl_1 58 rfl rfl
theorem q_t1_60 : (Cond.lays "SheetFolder$TextReader" "SheetFolder$TextReader" "length" "I") ∈ WA := wa_q tbl_1 60 rfl rfl
theorem q_t1_62 : (Cond.lays "SheetFolder$TextReader" "SheetFolder$TextReader" "tokenFrom" "I") ∈ WA := wa_q tbl_1 62 rfl rfl
theorem q_t1_64 : (Cond.lays "SheetFolder$TextReader" "SheetFolder$TextReader" "tokenTo" "I") ∈ WA := wa_q tbl_1 64 rfl rfl
theorem q_t1_66 : (Cond.lays "SheetFolder$TextReader" "SheetFolder$TextReader" "token" "I") ∈ WA := wa_q tbl_1 66 rfl rfl
theorem q_t1_68 : (Cond.lays "SheetFolder$TextReader" "SheetFolder$TextReader" "tokenNumber" "I") ∈ WA := wa_q tbl_1 68 rfl rfl
theorem q_t1_70 : (Cond.laysFinal "SheetFolder$TextReader" "SheetFolder$TextReader" "numbers" "[I") ∈ WA := wa_q tbl_1 70 rfl rfl
theorem q_t1_82 : (Cond.instanceMethod ⟨"SheetFolder$Part", "clear", "()V"⟩) ∈ WA := wa_q tbl_1 82 rfl rfl
theorem q_t1_83 : (Cond.selects "SheetFolder$Part" ⟨"SheetFolder$Part", "clear", "()V"⟩ ⟨"SheetFolder$Part", "clear", "()V"⟩) ∈ WA := wa_q tbl_1 83 rfl rfl
theorem q_t1_84 : (Cond.code ⟨"SheetFolder$Part", "clear", "()V"⟩ prog_3_method_2_code 1 none) ∈ WA := wa_q tbl_1 84 rfl rfl
theorem q_t1_85 : (Cond.methodLink "SheetFolder$Part" 70 ⟨"SheetFolder$Part", "putSheet", "(III)V"⟩) ∈ WA := wa_q tbl_1 85 rfl rfl
theorem q_t1_86 : (Cond.instanceMethod ⟨"SheetFolder$Part", "putSheet", "(III)V"⟩) ∈ WA := wa_q tbl_1 86 rfl rfl
theorem q_t1_87 : (Cond.selects "SheetFolder$Part" ⟨"SheetFolder$Part", "putSheet", "(III)V"⟩ ⟨"SheetFolder$Part", "putSheet", "(III)V"⟩) ∈ WA := wa_q tbl_1 87 rfl rfl
theorem q_t1_88 : (Cond.code ⟨"SheetFolder$Part", "putSheet", "(III)V"⟩ prog_3_method_4_code 4 none) ∈ WA := wa_q tbl_1 88 rfl rfl
theorem q_t1_89 : (Cond.methodLink "SheetFolder$Part" 74 ⟨"SheetFolder$Part", "putTool", "(III)V"⟩) ∈ WA := wa_q tbl_1 89 rfl rfl
theorem q_t1_90 : (Cond.instanceMethod ⟨"SheetFolder$Part", "putTool", "(III)V"⟩) ∈ WA := wa_q tbl_1 90 rfl rfl
theorem q_t1_91 : (Cond.selects "SheetFolder$Part" ⟨"SheetFolder$Part", "putTool", "(III)V"⟩ ⟨"SheetFolder$Part", "putTool", "(III)V"⟩) ∈ WA := wa_q tbl_1 91 rfl rfl
theorem q_t1_92 : (Cond.code ⟨"SheetFolder$Part", "putTool", "(III)V"⟩ prog_3_method_5_code 4 none) ∈ WA := wa_q tbl_1 92 rfl rfl
theorem q_t1_93 : (Cond.methodLink "SheetFolder$Part" 77 ⟨"SheetFolder$Part", "putCosts", "(III)V"⟩) ∈ WA := wa_q tbl_1 93 rfl rfl
theorem q_t1_94 : (Cond.instanceMethod ⟨"SheetFolder$Part", "putCosts", "(III)V"⟩) ∈ WA := wa_q tbl_1 94 rfl rfl
theorem q_t1_95 : (Cond.selects "SheetFolder$Part" ⟨"SheetFolder$Part", "putCosts", "(III)V"⟩ ⟨"SheetFolder$Part", "putCosts", "(III)V"⟩) ∈ WA := wa_q tbl_1 95 rfl rfl
theorem q_t1_96 : (Cond.code ⟨"SheetFolder$Part", "putCosts", "(III)V"⟩ prog_3_method_6_code 4 none) ∈ WA := wa_q tbl_1 96 rfl rfl
theorem q_t1_97 : (Cond.methodLink "SheetFolder$Part" 80 ⟨"SheetFolder$Part", "dropSteps", "()V"⟩) ∈ WA := wa_q tbl_1 97 rfl rfl
theorem q_t1_98 : (Cond.instanceMethod ⟨"SheetFolder$Part", "dropSteps", "()V"⟩) ∈ WA := wa_q tbl_1 98 rfl rfl
theorem q_t1_99 : (Cond.selects "SheetFolder$Part" ⟨"SheetFolder$Part", "dropSteps", "()V"⟩ ⟨"SheetFolder$Part", "dropSteps", "()V"⟩) ∈ WA := wa_q tbl_1 99 rfl rfl
theorem q_t1_100 : (Cond.code ⟨"SheetFolder$Part", "dropSteps", "()V"⟩ prog_3_method_19_code 1 none) ∈ WA := wa_q tbl_1 100 rfl rfl
theorem q_t1_101 : (Cond.fieldLink "SheetFolder$Part" 9 "SheetFolder$Part" "legCount" "I") ∈ WA := wa_q tbl_1 101 rfl rfl
theorem q_t1_102 : (Cond.fieldLink "SheetFolder$Places" 40 "SheetFolder$Part" "legCount" "I") ∈ WA := wa_q tbl_1 102 rfl rfl
theorem q_t1_103 : (Cond.fieldLink "SheetFolder$TextReader" 83 "SheetFolder$Part" "legCount" "I") ∈ WA := wa_q tbl_1 103 rfl rfl
theorem q_t1_104 : (Cond.fieldLink "SheetFolder" 94 "SheetFolder$Part" "legCount" "I") ∈ WA := wa_q tbl_1 104 rfl rfl
theorem q_t1_105 : (Cond.fieldLink "SheetFolder$Part" 15 "SheetFolder$Part" "legLengths" "[I") ∈ WA := wa_q tbl_1 105 rfl rfl
theorem q_t1_106 : (Cond.fieldLink "SheetFolder$Places" 58 "SheetFolder$Part" "legLengths" "[I") ∈ WA := wa_q tbl_1 106 rfl rfl
theorem q_t1_107 : (Cond.fieldLink "SheetFolder" 100 "SheetFolder$Part" "legLengths" "[I") ∈ WA := wa_q tbl_1 107 rfl rfl
theorem q_t1_108 : (Cond.fieldLink "SheetFolder$Part" 19 "SheetFolder$Part" "upBits" "I") ∈ WA := wa_q tbl_1 108 rfl rfl
theorem q_t1_109 : (Cond.fieldLink "SheetFolder$Places" 47 "SheetFolder$Part" "upBits" "I") ∈ WA := wa_q tbl_1 109 rfl rfl
theorem q_t1_110 : (Cond.fieldLink "SheetFolder" 273 "SheetFolder$Part" "upBits" "I") ∈ WA := wa_q tbl_1 110 rfl rfl
theorem q_t1_111 : (Cond.fieldLink "SheetFolder$Part" 22 "SheetFolder$Part" "thickness" "I") ∈ WA := wa_q tbl_1 111 rfl rfl
theorem q_t1_112 : (Cond.fieldLink "SheetFolder" 320 "SheetFolder$Part" "thickness" "I") ∈ WA := wa_q tbl_1 112 rfl rfl
theorem q_t1_113 : (Cond.fieldLink "SheetFolder$Part" 25 "SheetFolder$Part" "radius" "I") ∈ WA := wa_q tbl_1 113 rfl rfl
theorem q_t1_114 : (Cond.fieldLink "SheetFolder$Part" 28 "SheetFolder$Part" "neutral" "I") ∈ WA := wa_q tbl_1 114 rfl rfl
theorem q_t1_115 : (Cond.fieldLink "SheetFolder$Part" 31 "SheetFolder$Part" "toolNumbers" "[I") ∈ WA := wa_q tbl_1 115 rfl rfl
theorem q_t1_116 : (Cond.fieldLink "SheetFolder$Places" 73 "SheetFolder$Part" "toolNumbers" "[I") ∈ WA := wa_q tbl_1 116 rfl rfl
theorem q_t1_117 : (Cond.fieldLink "SheetFolder" 143 "SheetFolder$Part" "toolNumbers" "[I") ∈ WA := wa_q tbl_1 117 rfl rfl
theorem q_t1_118 : (Cond.fieldLink "SheetFolder$Part" 34 "SheetFolder$Part" "flipCost" "I") ∈ WA := wa_q tbl_1 118 rfl rfl
theorem q_t1_119 : (Cond.fieldLink "SheetFolder" 331 "SheetFolder$Part" "flipCost" "I") ∈ WA := wa_q tbl_1 119 rfl rfl
theorem q_t1_120 : (Cond.fieldLink "SheetFolder$Part" 37 "SheetFolder$Part" "turnCost" "I") ∈ WA := wa_q tbl_1 120 rfl rfl
theorem q_t1_121 : (Cond.fieldLink "SheetFolder$Part" 40 "SheetFolder$Part" "moveCost" "I") ∈ WA := wa_q tbl_1 121 rfl rfl
theorem q_t1_122 : (Cond.fieldLink "SheetFolder$Part" 43 "SheetFolder$Part" "backCount" "I") ∈ WA := wa_q tbl_1 122 rfl rfl
theorem q_t1_123 : (Cond.fieldLink "SheetFolder$TextReader" 96 "SheetFolder$Part" "backCount" "I") ∈ WA := wa_q tbl_1 123 rfl rfl
theorem q_t1_124 : (Cond.fieldLink "SheetFolder$Part" 46 "SheetFolder$Part" "backRatios" "[I") ∈ WA := wa_q tbl_1 124 rfl rfl
theorem q_t1_125 : (Cond.fieldLink "SheetFolder$Part" 49 "SheetFolder$Part" "backAngles" "[I") ∈ WA := wa_q tbl_1 125 rfl rfl
theorem q_t1_126 : (Cond.fieldLink "SheetFolder$Part" 52 "SheetFolder$Part" "madeBits" "I") ∈ WA := wa_q tbl_1 126 rfl rfl
theorem q_t1_127 : (Cond.fieldLink "SheetFolder$Planner" 93 "SheetFolder$Part" "madeBits" "I") ∈ WA := wa_q tbl_1 127 rfl rfl
theorem q_t1_128 : (Cond.fieldLink "SheetFolder" 170 "SheetFolder$Part" "madeBits" "I") ∈ WA := wa_q tbl_1 128 rfl rfl
theorem q_t1_129 : (Cond.fieldLink "SheetFolder$Part" 55 "SheetFolder$Part" "stepCount" "I") ∈ WA := wa_q tbl_1 129 rfl rfl
theorem q_t1_130 : (Cond.fieldLink "SheetFolder" 173 "SheetFolder$Part" "stepCount" "I") ∈ WA := wa_q tbl_1 130 rfl rfl
theorem q_t1_131 : (Cond.fieldLink "SheetFolder$Part" 58 "SheetFolder$Part" "stepCodes" "[I") ∈ WA := wa_q tbl_1 131 rfl rfl
theorem q_t1_132 : (Cond.fieldLink "SheetFolder" 181 "SheetFolder$Part" "stepCodes" "[I") ∈ WA := wa_q tbl_1 132 rfl rfl
theorem q_t1_133 : (Cond.fieldLink "SheetFolder$Part" 61 "SheetFolder$Part" "stepGauges" "[I") ∈ WA := wa_q tbl_1 133 rfl rfl
theorem q_t1_134 : (Cond.fieldLink "SheetFolder" 184 "SheetFolder$Part" "stepGauges" "[I") ∈ WA := wa_q tbl_1 134 rfl rfl
theorem q_t1_135 : (Cond.fieldLink "SheetFolder$Part" 64 "SheetFolder$Part" "stepCosts" "[I") ∈ WA := wa_q tbl_1 135 rfl rfl
theorem q_t1_136 : (Cond.fieldLink "SheetFolder" 187 "SheetFolder$Part" "stepCosts" "[I") ∈ WA := wa_q tbl_1 136 rfl rfl
theorem q_t1_137 : (Cond.lays "SheetFolder$Part" "SheetFolder$Part" "legCount" "I") ∈ WA := wa_q tbl_1 137 rfl rfl
theorem q_t1_139 : (Cond.laysFinal "SheetFolder$Part" "SheetFolder$Part" "legLengths" "[I") ∈ WA := wa_q tbl_1 139 rfl rfl
theorem q_t1_141 : (Cond.lays "SheetFolder$Part" "SheetFolder$Part" "upBits" "I") ∈ WA := wa_q tbl_1 141 rfl rfl
theorem q_t1_143 : (Cond.lays "SheetFolder$Part" "SheetFolder$Part" "thickness" "I") ∈ WA := wa_q tbl_1 143 rfl rfl
theorem q_t1_145 : (Cond.lays "SheetFolder$Part" "SheetFolder$Part" "radius" "I") ∈ WA := wa_q tbl_1 145 rfl rfl
theorem q_t1_147 : (Cond.lays "SheetFolder$Part" "SheetFolder$Part" "neutral" "I") ∈ WA := wa_q tbl_1 147 rfl rfl
theorem q_t1_149 : (Cond.laysFinal "SheetFolder$Part" "SheetFolder$Part" "toolNumbers" "[I") ∈ WA := wa_q tbl_1 149 rfl rfl
theorem q_t1_151 : (Cond.lays "SheetFolder$Part" "SheetFolder$Part" "flipCost" "I") ∈ WA := wa_q tbl_1 151 rfl rfl
theorem q_t1_153 : (Cond.lays "SheetFolder$Part" "SheetFolder$Part" "turnCost" "I") ∈ WA := wa_q tbl_1 153 rfl rfl
theorem q_t1_155 : (Cond.lays "SheetFolder$Part" "SheetFolder$Part" "moveCost" "I") ∈ WA := wa_q tbl_1 155 rfl rfl
theorem q_t1_157 : (Cond.lays "SheetFolder$Part" "SheetFolder$Part" "backCount" "I") ∈ WA := wa_q tbl_1 157 rfl rfl
theorem q_t1_159 : (Cond.laysFinal "SheetFolder$Part" "SheetFolder$Part" "backRatios" "[I") ∈ WA := wa_q tbl_1 159 rfl rfl
theorem q_t1_161 : (Cond.laysFinal "SheetFolder$Part" "SheetFolder$Part" "backAngles" "[I") ∈ WA := wa_q tbl_1 161 rfl rfl
theorem q_t1_163 : (Cond.lays "SheetFolder$Part" "SheetFolder$Part" "madeBits" "I") ∈ WA := wa_q tbl_1 163 rfl rfl
theorem q_t1_165 : (Cond.lays "SheetFolder$Part" "SheetFolder$Part" "stepCount" "I") ∈ WA := wa_q tbl_1 165 rfl rfl
theorem q_t1_167 : (Cond.laysFinal "SheetFolder$Part" "SheetFolder$Part" "stepCodes" "[I") ∈ WA := wa_q tbl_1 167 rfl rfl
theorem q_t1_169 : (Cond.laysFinal "SheetFolder$Part" "SheetFolder$Part" "stepGauges" "[I") ∈ WA := wa_q tbl_1 169 rfl rfl
theorem q_t1_171 : (Cond.laysFinal "SheetFolder$Part" "SheetFolder$Part" "stepCosts" "[I") ∈ WA := wa_q tbl_1 171 rfl rfl
theorem q_t1_183 : (Cond.fieldLink "SheetFolder$History" 11 "SheetFolder$History" "before" "[LSheetFolder$Part;") ∈ WA := wa_q tbl_1 183 rfl rfl
theorem q_t1_184 : (Cond.fieldLink "SheetFolder$History" 17 "SheetFolder$History" "oldest" "I") ∈ WA := wa_q tbl_1 184 rfl rfl
theorem q_t1_185 : (Cond.fieldLink "SheetFolder$History" 21 "SheetFolder$History" "count" "I") ∈ WA := wa_q tbl_1 185 rfl rfl
theorem q_t1_186 : (Cond.fieldLink "SheetFolder" 340 "SheetFolder$History" "count" "I") ∈ WA := wa_q tbl_1 186 rfl rfl
theorem q_t1_187 : (Cond.laysFinal "SheetFolder$History" "SheetFolder$History" "before" "[LSheetFolder$Part;") ∈ WA := wa_q tbl_1 187 rfl rfl
theorem q_t1_189 : (Cond.lays "SheetFolder$History" "SheetFolder$History" "oldest" "I") ∈ WA := wa_q tbl_1 189 rfl rfl
theorem q_t1_191 : (Cond.lays "SheetFolder$History" "SheetFolder$History" "count" "I") ∈ WA := wa_q tbl_1 191 rfl rfl
theorem q_t1_200 : (Cond.fieldLink "SheetFolder$Places" 9 "SheetFolder$Places" "farX" "[I") ∈ WA := wa_q tbl_1 200 rfl rfl
theorem q_t1_201 : (Cond.fieldLink "SheetFolder" 149 "SheetFolder$Places" "farX" "[I") ∈ WA := wa_q tbl_1 201 rfl rfl
theorem q_t1_202 : (Cond.fieldLink "SheetFolder$Places" 15 "SheetFolder$Places" "farY" "[I") ∈ WA := wa_q tbl_1 202 rfl rfl
theorem q_t1_203 : (Cond.fieldLink "SheetFolder" 156 "SheetFolder$Places" "farY" "[I") ∈ WA := wa_q tbl_1 203 rfl rfl
theorem q_t1_204 : (Cond.fieldLink "SheetFolder$Places" 18 "SheetFolder$Places" "leastX" "[I") ∈ WA := wa_q tbl_1 204 rfl rfl
theorem q_t1_205 : (Cond.fieldLink "SheetFolder$Places" 21 "SheetFolder$Places" "mostX" "[I") ∈ WA := wa_q tbl_1 205 rfl rfl
theorem q_t1_206 : (Cond.fieldLink "SheetFolder$Places" 24 "SheetFolder$Places" "leastY" "[I") ∈ WA := wa_q tbl_1 206 rfl rfl
theorem q_t1_207 : (Cond.fieldLink "SheetFolder$Places" 27 "SheetFolder$Places" "mostY" "[I") ∈ WA := wa_q tbl_1 207 rfl rfl
theorem q_t1_208 : (Cond.fieldLink "SheetFolder$Places" 30 "SheetFolder$Places" "legCount" "I") ∈ WA := wa_q tbl_1 208 rfl rfl
theorem q_t1_209 : (Cond.fieldLink "SheetFolder$Places" 34 "SheetFolder$Places" "clampedFrom" "I") ∈ WA := wa_q tbl_1 209 rfl rfl
theorem q_t1_210 : (Cond.fieldLink "SheetFolder$Places" 37 "SheetFolder$Places" "clampedTo" "I") ∈ WA := wa_q tbl_1 210 rfl rfl
theorem q_t1_211 : (Cond.laysFinal "SheetFolder$Places" "SheetFolder$Places" "farX" "[I") ∈ WA := wa_q tbl_1 211 rfl rfl
theorem q_t1_213 : (Cond.laysFinal "SheetFolder$Places" "SheetFolder$Places" "farY" "[I") ∈ WA := wa_q tbl_1 213 rfl rfl
theorem q_t1_215 : (Cond.laysFinal "SheetFolder$Places" "SheetFolder$Places" "leastX" "[I") ∈ WA := wa_q tbl_1 215 rfl rfl
theorem q_t1_217 : (Cond.laysFinal "SheetFolder$Places" "SheetFolder$Places" "mostX" "[I") ∈ WA := wa_q tbl_1 217 rfl rfl
theorem q_t1_219 : (Cond.laysFinal "SheetFolder$Places" "SheetFolder$Places" "leastY" "[I") ∈ WA := wa_q tbl_1 219 rfl rfl
theorem q_t1_221 : (Cond.laysFinal "SheetFolder$Places" "SheetFolder$Places" "mostY" "[I") ∈ WA := wa_q tbl_1 221 rfl rfl
theorem q_t1_223 : (Cond.lays "SheetFolder$Places" "SheetFolder$Places" "legCount" "I") ∈ WA := wa_q tbl_1 223 rfl rfl
theorem q_t1_225 : (Cond.lays "SheetFolder$Places" "SheetFolder$Places" "clampedFrom" "I") ∈ WA := wa_q tbl_1 225 rfl rfl
theorem q_t1_227 : (Cond.lays "SheetFolder$Places" "SheetFolder$Places" "clampedTo" "I") ∈ WA := wa_q tbl_1 227 rfl rfl
theorem q_t10_1 : (Cond.instanceMethod ⟨"SheetFolderModel", "putNumber", "(I)V"⟩) ∈ WA := wa_q tbl_10 1 rfl rfl
theorem q_t10_2 : (Cond.code ⟨"SheetFolderModel", "putNumber", "(I)V"⟩ prog_9_method_137_code 3 none) ∈ WA := wa_q tbl_10 2 rfl rfl
theorem q_t10_3 : (Cond.methodLink "SheetFolderModel" 438 ⟨"SheetFolderModel", "put", "(I)V"⟩) ∈ WA := wa_q tbl_10 3 rfl rfl
theorem q_t10_5 : (Cond.instanceMethod ⟨"SheetFolderModel", "put", "(I)V"⟩) ∈ WA := wa_q tbl_10 5 rfl rfl
theorem q_t10_6 : (Cond.code ⟨"SheetFolderModel", "put", "(I)V"⟩ prog_9_method_136_code 2 none) ∈ WA := wa_q tbl_10 6 rfl rfl
theorem q_t10_7 : (Cond.methodLink "SheetFolderModel" 446 ⟨"SheetFolderModel", "putBend", "(I)V"⟩) ∈ WA := wa_q tbl_10 7 rfl rfl
theorem q_t10_9 : (Cond.instanceMethod ⟨"SheetFolderModel", "putBend", "(I)V"⟩) ∈ WA := wa_q tbl_10 9 rfl rfl
theorem q_t10_10 : (Cond.code ⟨"SheetFolderModel", "putBend", "(I)V"⟩ prog_9_method_138_code 2 none) ∈ WA := wa_q tbl_10 10 rfl rfl
theorem q_t10_11 : (Cond.methodLink "SheetFolderModel" 449 ⟨"SheetFolderModel", "putCost", "()V"⟩) ∈ WA := wa_q tbl_10 11 rfl rfl
theorem q_t10_13 : (Cond.instanceMethod ⟨"SheetFolderModel", "putCost", "()V"⟩) ∈ WA := wa_q tbl_10 13 rfl rfl
theorem q_t10_14 : (Cond.code ⟨"SheetFolderModel", "putCost", "()V"⟩ prog_9_method_139_code 3 none) ∈ WA := wa_q tbl_10 14 rfl rfl
theorem q_t10_17 : (Cond.instanceMethod ⟨"SheetFolderModel", "written", "(I)C"⟩) ∈ WA := wa_q tbl_10 17 rfl rfl
theorem q_t10_18 : (Cond.selects "SheetFolderModel" ⟨"SheetFolderModel", "written", "(I)C"⟩ ⟨"SheetFolderModel", "written", "(I)C"⟩) ∈ WA := wa_q tbl_10 18 rfl rfl
theorem q_t10_19 : (Cond.code ⟨"SheetFolderModel", "written", "(I)C"⟩ prog_9_method_141_code 2 (some .char)) ∈ WA := wa_q tbl_10 19 rfl rfl
theorem q_t10_37 : (Cond.fieldLink "SheetFolder$Word" 58 "SheetFolder$Word" "text" "Ljava/lang/String;") ∈ WA := wa_q tbl_10 37 rfl rfl
theorem q_t10_38 : (Cond.fieldLink "SheetFolder$Word" 72 "SheetFolder$Word" "mostOfThird" "I") ∈ WA := wa_q tbl_10 38 rfl rfl
theorem q_t10_39 : (Cond.fieldLink "SheetFolder$Word" 69 "SheetFolder$Word" "mostOfSecond" "I") ∈ WA := wa_q tbl_10 39 rfl rfl
theorem q_t10_40 : (Cond.fieldLink "SheetFolder$Word" 62 "SheetFolder$Word" "leastOfFirst" "I") ∈ WA := wa_q tbl_10 40 rfl rfl
theorem q_t10_41 : (Cond.fieldLink "SheetFolder$Word" 66 "SheetFolder$Word" "mostOfFirst" "I") ∈ WA := wa_q tbl_10 41 rfl rfl
theorem q_t2_0 : (Cond.methodLink "SheetFolder$Planner" 63 ⟨"SheetFolder$Planner", "forgetSteps", "()V"⟩) ∈ WA := wa_q tbl_2 0 rfl rfl
theorem q_t2_2 : (Cond.instanceMethod ⟨"SheetFolder$Planner", "forgetSteps", "()V"⟩) ∈ WA := wa_q tbl_2 2 rfl rfl
theorem q_t2_3 : (Cond.code ⟨"SheetFolder$Planner", "forgetSteps", "()V"⟩ prog_5_method_7_code 2 none) ∈ WA := wa_q tbl_2 3 rfl rfl
theorem q_t2_4 : (Cond.fieldLink "SheetFolder$Planner" 9 "SheetFolder$Planner" "leastTotal" "I") ∈ WA := wa_q tbl_2 4 rfl rfl
theorem q_t2_5 : (Cond.fieldLink "SheetFolder" 246 "SheetFolder$Planner" "leastTotal" "I") ∈ WA := wa_q tbl_2 5 rfl rfl
theorem q_t2_6 : (Cond.fieldLink "SheetFolder$Planner" 15 "SheetFolder$Planner" "greatestTotal" "I") ∈ WA := wa_q tbl_2 6 rfl rfl
theorem q_t2_7 : (Cond.fieldLink "SheetFolder" 257 "SheetFolder$Planner" "greatestTotal" "I") ∈ WA := wa_q tbl_2 7 rfl rfl
theorem q_t2_8 : (Cond.fieldLink "SheetFolder$Planner" 18 "SheetFolder$Planner" "plan" "[I") ∈ WA := wa_q tbl_2 8 rfl rfl
theorem q_t2_9 : (Cond.fieldLink "SheetFolder" 254 "SheetFolder$Planner" "plan" "[I") ∈ WA := wa_q tbl_2 9 rfl rfl
theorem q_t2_10 : (Cond.fieldLink "SheetFolder$Planner" 22 "SheetFolder$Planner" "planLength" "I") ∈ WA := wa_q tbl_2 10 rfl rfl
theorem q_t2_11 : (Cond.fieldLink "SheetFolder" 249 "SheetFolder$Planner" "planLength" "I") ∈ WA := wa_q tbl_2 11 rfl rfl
theorem q_t2_12 : (Cond.fieldLink "SheetFolder$Planner" 28 "SheetFolder$Planner" "places" "LSheetFolder$Places;") ∈ WA := wa_q tbl_2 12 rfl rfl
theorem q_t2_13 : (Cond.fieldLink "SheetFolder$Planner" 35 "SheetFolder$Planner" "known" "LSheetFolder$Part;") ∈ WA := wa_q tbl_2 13 rfl rfl
theorem q_t2_14 : (Cond.fieldLink "SheetFolder$Planner" 39 "SheetFolder$Planner" "isPlanKnown" "Z") ∈ WA := wa_q tbl_2 14 rfl rfl
theorem q_t2_15 : (Cond.fieldLink "SheetFolder$Planner" 43 "SheetFolder$Planner" "openSteps" "[I") ∈ WA := wa_q tbl_2 15 rfl rfl
theorem q_t2_16 : (Cond.fieldLink "SheetFolder$Planner" 46 "SheetFolder$Planner" "isReached" "[Z") ∈ WA := wa_q tbl_2 16 rfl rfl
theorem q_t2_17 : (Cond.fieldLink "SheetFolder$Planner" 50 "SheetFolder$Planner" "orderCounts" "[J") ∈ WA := wa_q tbl_2 17 rfl rfl
theorem q_t2_18 : (Cond.fieldLink "SheetFolder$Planner" 54 "SheetFolder$Planner" "gauges" "[I") ∈ WA := wa_q tbl_2 18 rfl rfl
theorem q_t2_19 : (Cond.fieldLink "SheetFolder$Planner" 57 "SheetFolder$Planner" "leastCosts" "[I") ∈ WA := wa_q tbl_2 19 rfl rfl
theorem q_t2_20 : (Cond.fieldLink "SheetFolder$Planner" 60 "SheetFolder$Planner" "greatestCosts" "[I") ∈ WA := wa_q tbl_2 20 rfl rfl
theorem q_t2_21 : (Cond.lays "SheetFolder$Planner" "SheetFolder$Planner" "leastTotal" "I") ∈ WA := wa_q tbl_2 21 rfl rfl
theorem q_t2_23 : (Cond.lays "SheetFolder$Planner" "SheetFolder$Planner" "greatestTotal" "I") ∈ WA := wa_q tbl_2 23 rfl rfl
theorem q_t2_25 : (Cond.laysFinal "SheetFolder$Planner" "SheetFolder$Planner" "plan" "[I") ∈ WA := wa_q tbl_2 25 rfl rfl
theorem q_t2_27 : (Cond.lays "SheetFolder$Planner" "SheetFolder$Planner" "planLength" "I") ∈ WA := wa_q tbl_2 27 rfl rfl
theorem q_t2_29 : (Cond.laysFinal "SheetFolder$Planner" "SheetFolder$Planner" "places" "LSheetFolder$Places;") ∈ WA := wa_q tbl_2 29 rfl rfl
theorem q_t2_31 : (Cond.laysFinal "SheetFolder$Planner" "SheetFolder$Planner" "known" "LSheetFolder$Part;") ∈ WA := wa_q tbl_2 31 rfl rfl
theorem q_t2_33 : (Cond.lays "SheetFolder$Planner" "SheetFolder$Planner" "isPlanKnown" "Z") ∈ WA := wa_q tbl_2 33 rfl rfl
theorem q_t2_35 : (Cond.laysFinal "SheetFolder$Planner" "SheetFolder$Planner" "openSteps" "[I") ∈ WA := wa_q tbl_2 35 rfl rfl
theorem q_t2_37 : (Cond.laysFinal "SheetFolder$Planner" "SheetFolder$Planner" "isReached" "[Z") ∈ WA := wa_q tbl_2 37 rfl rfl
theorem q_t2_39 : (Cond.laysFinal "SheetFolder$Planner" "SheetFolder$Planner" "orderCounts" "[J") ∈ WA := wa_q tbl_2 39 rfl rfl
theorem q_t2_41 : (Cond.laysFinal "SheetFolder$Planner" "SheetFolder$Planner" "gauges" "[I") ∈ WA := wa_q tbl_2 41 rfl rfl
theorem q_t2_43 : (Cond.laysFinal "SheetFolder$Planner" "SheetFolder$Planner" "leastCosts" "[I") ∈ WA := wa_q tbl_2 43 rfl rfl
theorem q_t2_45 : (Cond.laysFinal "SheetFolder$Planner" "SheetFolder$Planner" "greatestCosts" "[I") ∈ WA := wa_q tbl_2 45 rfl rfl
theorem q_t2_82 : (Cond.fieldLink "SheetFolder" 9 "SheetFolder" "buffer" "[B") ∈ WA := wa_q tbl_2 82 rfl rfl
theorem q_t2_83 : (Cond.fieldLink "SheetFolder" 13 "SheetFolder" "buffered" "I") ∈ WA := wa_q tbl_2 83 rfl rfl
theorem q_t2_84 : (Cond.fieldLink "SheetFolder" 20 "SheetFolder" "reader" "LSheetFolder$TextReader;") ∈ WA := wa_q tbl_2 84 rfl rfl
theorem q_t2_85 : (Cond.fieldLink "SheetFolder" 27 "SheetFolder" "part" "LSheetFolder$Part;") ∈ WA := wa_q tbl_2 85 rfl rfl
theorem q_t2_86 : (Cond.fieldLink "SheetFolder" 31 "SheetFolder" "scratch" "LSheetFolder$Part;") ∈ WA := wa_q tbl_2 86 rfl rfl
theorem q_t2_87 : (Cond.fieldLink "SheetFolder" 37 "SheetFolder" "history" "LSheetFolder$History;") ∈ WA := wa_q tbl_2 87 rfl rfl
theorem q_t2_88 : (Cond.fieldLink "SheetFolder" 44 "SheetFolder" "places" "LSheetFolder$Places;") ∈ WA := wa_q tbl_2 88 rfl rfl
theorem q_t2_89 : (Cond.fieldLink "SheetFolder" 51 "SheetFolder" "planner" "LSheetFolder$Planner;") ∈ WA := wa_q tbl_2 89 rfl rfl
theorem q_t2_91 : (Cond.laysFinal "SheetFolder" "SheetFolder" "buffer" "[B") ∈ WA := wa_q tbl_2 91 rfl rfl
theorem q_t2_93 : (Cond.lays "SheetFolder" "SheetFolder" "buffered" "I") ∈ WA := wa_q tbl_2 93 rfl rfl
theorem q_t2_95 : (Cond.laysFinal "SheetFolder" "SheetFolder" "reader" "LSheetFolder$TextReader;") ∈ WA := wa_q tbl_2 95 rfl rfl
theorem q_t2_97 : (Cond.laysFinal "SheetFolder" "SheetFolder" "part" "LSheetFolder$Part;") ∈ WA := wa_q tbl_2 97 rfl rfl
theorem q_t2_99 : (Cond.laysFinal "SheetFolder" "SheetFolder" "scratch" "LSheetFolder$Part;") ∈ WA := wa_q tbl_2 99 rfl rfl
theorem q_t2_101 : (Cond.laysFinal "SheetFolder" "SheetFolder" "history" "LSheetFolder$History;") ∈ WA := wa_q tbl_2 101 rfl rfl
theorem q_t2_103 : (Cond.laysFinal "SheetFolder" "SheetFolder" "places" "LSheetFolder$Places;") ∈ WA := wa_q tbl_2 103 rfl rfl
theorem q_t2_105 : (Cond.laysFinal "SheetFolder" "SheetFolder" "planner" "LSheetFolder$Planner;") ∈ WA := wa_q tbl_2 105 rfl rfl
theorem q_t2_107 : (Cond.laysFinal "SheetFolder" "SheetFolder" "output" "Ljava/lang/StringBuilder;") ∈ WA := wa_q tbl_2 107 rfl rfl
theorem q_t2_111 : (Cond.instanceMethod ⟨"SheetFolder", "feed", "(IIIII)I"⟩) ∈ WA := wa_q tbl_2 111 rfl rfl
theorem q_t2_112 : (Cond.selects "SheetFolder" ⟨"SheetFolder", "feed", "(IIIII)I"⟩ ⟨"SheetFolder", "feed", "(IIIII)I"⟩) ∈ WA := wa_q tbl_2 112 rfl rfl
theorem q_t2_113 : (Cond.code ⟨"SheetFolder", "feed", "(IIIII)I"⟩ prog_1_method_2_code 6 (some .int)) ∈ WA := wa_q tbl_2 113 rfl rfl
theorem q_t2_114 : (Cond.methodLink "SheetFolder" 62 ⟨"SheetFolder", "append", "(I)V"⟩) ∈ WA := wa_q tbl_2 114 rfl rfl
theorem q_t2_116 : (Cond.instanceMethod ⟨"SheetFolder", "append", "(I)V"⟩) ∈ WA := wa_q tbl_2 116 rfl rfl
theorem q_t2_117 : (Cond.code ⟨"SheetFolder", "append", "(I)V"⟩ prog_1_method_3_code 3 none) ∈ WA := wa_q tbl_2 117 rfl rfl
theorem q_t2_119 : (Cond.instanceMethod ⟨"SheetFolder", "errorKind", "()I"⟩) ∈ WA := wa_q tbl_2 119 rfl rfl
theorem q_t2_120 : (Cond.selects "SheetFolder" ⟨"SheetFolder", "errorKind", "()I"⟩ ⟨"SheetFolder", "errorKind", "()I"⟩) ∈ WA := wa_q tbl_2 120 rfl rfl
theorem q_t2_121 : (Cond.code ⟨"SheetFolder", "errorKind", "()I"⟩ prog_1_method_5_code 1 (some .int)) ∈ WA := wa_q tbl_2 121 rfl rfl
theorem q_t2_123 : (Cond.instanceMethod ⟨"SheetFolder", "errorPosition", "()I"⟩) ∈ WA := wa_q tbl_2 123 rfl rfl
theorem q_t2_124 : (Cond.selects "SheetFolder" ⟨"SheetFolder", "errorPosition", "()I"⟩ ⟨"SheetFolder", "errorPosition", "()I"⟩) ∈ WA := wa_q tbl_2 124 rfl rfl
theorem q_t2_125 : (Cond.code ⟨"SheetFolder", "errorPosition", "()I"⟩ prog_1_method_6_code 1 (some .int)) ∈ WA := wa_q tbl_2 125 rfl rfl
theorem q_t2_127 : (Cond.instanceMethod ⟨"SheetFolder", "bends", "()I"⟩) ∈ WA := wa_q tbl_2 127 rfl rfl
theorem q_t2_128 : (Cond.selects "SheetFolder" ⟨"SheetFolder", "bends", "()I"⟩ ⟨"SheetFolder", "bends", "()I"⟩) ∈ WA := wa_q tbl_2 128 rfl rfl
theorem q_t2_129 : (Cond.code ⟨"SheetFolder", "bends", "()I"⟩ prog_1_method_7_code 1 (some .int)) ∈ WA := wa_q tbl_2 129 rfl rfl
theorem q_t2_130 : (Cond.methodLink "SheetFolder" 84 ⟨"SheetFolder$Part", "bendCount", "()I"⟩) ∈ WA := wa_q tbl_2 130 rfl rfl
theorem q_t2_131 : (Cond.instanceMethod ⟨"SheetFolder$Part", "bendCount", "()I"⟩) ∈ WA := wa_q tbl_2 131 rfl rfl
theorem q_t2_132 : (Cond.selects "SheetFolder$Part" ⟨"SheetFolder$Part", "bendCount", "()I"⟩ ⟨"SheetFolder$Part", "bendCount", "()I"⟩) ∈ WA := wa_q tbl_2 132 rfl rfl
theorem q_t2_133 : (Cond.code ⟨"SheetFolder$Part", "bendCount", "()I"⟩ prog_3_method_10_code 1 (some .int)) ∈ WA := wa_q tbl_2 133 rfl rfl
theorem q_t2_135 : (Cond.instanceMethod ⟨"SheetFolder", "legs", "()I"⟩) ∈ WA := wa_q tbl_2 135 rfl rfl
theorem q_t2_136 : (Cond.selects "SheetFolder" ⟨"SheetFolder", "legs", "()I"⟩ ⟨"SheetFolder", "legs", "()I"⟩) ∈ WA := wa_q tbl_2 136 rfl rfl
theorem q_t2_137 : (Cond.code ⟨"SheetFolder", "legs", "()I"⟩ prog_1_method_8_code 1 (some .int)) ∈ WA := wa_q tbl_2 137 rfl rfl
theorem q_t2_139 : (Cond.instanceMethod ⟨"SheetFolder", "deduction", "()D"⟩) ∈ WA := wa_q tbl_2 139 rfl rfl
theorem q_t2_140 : (Cond.selects "SheetFolder" ⟨"SheetFolder", "deduction", "()D"⟩ ⟨"SheetFolder", "deduction", "()D"⟩) ∈ WA := wa_q tbl_2 140 rfl rfl
theorem q_t2_141 : (Cond.code ⟨"SheetFolder", "deduction", "()D"⟩ prog_1_method_11_code 1 (some .double)) ∈ WA := wa_q tbl_2 141 rfl rfl
theorem q_t2_142 : (Cond.methodLink "SheetFolder" 111 ⟨"SheetFolder$Part", "deductionOfBend", "()D"⟩) ∈ WA := wa_q tbl_2 142 rfl rfl
theorem q_t2_143 : (Cond.instanceMethod ⟨"SheetFolder$Part", "deductionOfBend", "()D"⟩) ∈ WA := wa_q tbl_2 143 rfl rfl
theorem q_t2_144 : (Cond.selects "SheetFolder$Part" ⟨"SheetFolder$Part", "deductionOfBend", "()D"⟩ ⟨"SheetFolder$Part", "deductionOfBend", "()D"⟩) ∈ WA := wa_q tbl_2 144 rfl rfl
theorem q_t2_145 : (Cond.code ⟨"SheetFolder$Part", "deductionOfBend", "()D"⟩ prog_3_method_15_code 1 (some .double)) ∈ WA := wa_q tbl_2 145 rfl rfl
theorem q_t2_146 : (Cond.constantDouble "SheetFolder$Part" 97 (4611686018427387904 : UInt64)) ∈ WA := wa_q tbl_2 146 rfl rfl
theorem q_t2_147 : (Cond.constantDouble "SheetFolder$Part" 99 (4609753073467320487 : UInt64)) ∈ WA := wa_q tbl_2 147 rfl rfl
theorem q_t2_148 : (Cond.constantDouble "SheetFolder$Part" 101 (4636737291354636288 : UInt64)) ∈ WA := wa_q tbl_2 148 rfl rfl
theorem q_t2_150 : (Cond.instanceMethod ⟨"SheetFolder", "flatLength", "()D"⟩) ∈ WA := wa_q tbl_2 150 rfl rfl
theorem q_t2_151 : (Cond.selects "SheetFolder" ⟨"SheetFolder", "flatLength", "()D"⟩ ⟨"SheetFolder", "flatLength", "()D"⟩) ∈ WA := wa_q tbl_2 151 rfl rfl
theorem q_t2_152 : (Cond.code ⟨"SheetFolder", "flatLength", "()D"⟩ prog_1_method_12_code 1 (some .double)) ∈ WA := wa_q tbl_2 152 rfl rfl
theorem q_t2_153 : (Cond.methodLink "SheetFolder" 115 ⟨"SheetFolder$Part", "sumOfLegs", "(I)I"⟩) ∈ WA := wa_q tbl_2 153 rfl rfl
theorem q_t2_154 : (Cond.instanceMethod ⟨"SheetFolder$Part", "sumOfLegs", "(I)I"⟩) ∈ WA := wa_q tbl_2 154 rfl rfl
theorem q_t2_155 : (Cond.selects "SheetFolder$Part" ⟨"SheetFolder$Part", "sumOfLegs", "(I)I"⟩ ⟨"SheetFolder$Part", "sumOfLegs", "(I)I"⟩) ∈ WA := wa_q tbl_2 155 rfl rfl
theorem q_t2_156 : (Cond.code ⟨"SheetFolder$Part", "sumOfLegs", "(I)I"⟩ prog_3_method_13_code 4 (some .int)) ∈ WA := wa_q tbl_2 156 rfl rfl
theorem q_t2_158 : (Cond.instanceMethod ⟨"SheetFolder", "ratio", "()D"⟩) ∈ WA := wa_q tbl_2 158 rfl rfl
theorem q_t2_159 : (Cond.selects "SheetFolder" ⟨"SheetFolder", "ratio", "()D"⟩ ⟨"SheetFolder", "ratio", "()D"⟩) ∈ WA := wa_q tbl_2 159 rfl rfl
theorem q_t2_160 : (Cond.code ⟨"SheetFolder", "ratio", "()D"⟩ prog_1_method_14_code 1 (some .double)) ∈ WA := wa_q tbl_2 160 rfl rfl
theorem q_t2_161 : (Cond.methodLink "SheetFolder" 121 ⟨"SheetFolder$Part", "ratioOfSheet", "()D"⟩) ∈ WA := wa_q tbl_2 161 rfl rfl
theorem q_t2_162 : (Cond.instanceMethod ⟨"SheetFolder$Part", "ratioOfSheet", "()D"⟩) ∈ WA := wa_q tbl_2 162 rfl rfl
theorem q_t2_163 : (Cond.selects "SheetFolder$Part" ⟨"SheetFolder$Part", "ratioOfSheet", "()D"⟩ ⟨"SheetFolder$Part", "ratioOfSheet", "()D"⟩) ∈ WA := wa_q tbl_2 163 rfl rfl
theorem q_t2_164 : (Cond.code ⟨"SheetFolder$Part", "ratioOfSheet", "()D"⟩ prog_3_method_16_code 1 (some .double)) ∈ WA := wa_q tbl_2 164 rfl rfl
theorem q_t2_165 : (Cond.constantDouble "SheetFolder$Part" 103 (4621819117588971520 : UInt64)) ∈ WA := wa_q tbl_2 165 rfl rfl
theorem q_t2_167 : (Cond.instanceMethod ⟨"SheetFolder", "springBack", "()D"⟩) ∈ WA := wa_q tbl_2 167 rfl rfl
theorem q_t2_168 : (Cond.selects "SheetFolder" ⟨"SheetFolder", "springBack", "()D"⟩ ⟨"SheetFolder", "springBack", "()D"⟩) ∈ WA := wa_q tbl_2 168 rfl rfl
theorem q_t2_169 : (Cond.code ⟨"SheetFolder", "springBack", "()D"⟩ prog_1_method_15_code 1 (some .double)) ∈ WA := wa_q tbl_2 169 rfl rfl
theorem q_t2_170 : (Cond.methodLink "SheetFolder" 124 ⟨"SheetFolder$Part", "springBackAt", "(D)D"⟩) ∈ WA := wa_q tbl_2 170 rfl rfl
theorem q_t2_171 : (Cond.instanceMethod ⟨"SheetFolder$Part", "springBackAt", "(D)D"⟩) ∈ WA := wa_q tbl_2 171 rfl rfl
theorem q_t2_172 : (Cond.selects "SheetFolder$Part" ⟨"SheetFolder$Part", "springBackAt", "(D)D"⟩ ⟨"SheetFolder$Part", "springBackAt", "(D)D"⟩) ∈ WA := wa_q tbl_2 172 rfl rfl
theorem q_t2_173 : (Cond.code ⟨"SheetFolder$Part", "springBackAt", "(D)D"⟩ prog_3_method_17_code 4 (some .double)) ∈ WA := wa_q tbl_2 173 rfl rfl
theorem q_t2_174 : (Cond.methodLink "SheetFolder$Part" 105 ⟨"SheetFolder$Part", "springBackBetween", "(IID)D"⟩) ∈ WA := wa_q tbl_2 174 rfl rfl
theorem q_t2_176 : (Cond.instanceMethod ⟨"SheetFolder$Part", "springBackBetween", "(IID)D"⟩) ∈ WA := wa_q tbl_2 176 rfl rfl
theorem q_t2_177 : (Cond.code ⟨"SheetFolder$Part", "springBackBetween", "(IID)D"⟩ prog_3_method_18_code 9 (some .double)) ∈ WA := wa_q tbl_2 177 rfl rfl
theorem q_t2_179 : (Cond.instanceMethod ⟨"SheetFolder", "swingAngle", "()I"⟩) ∈ WA := wa_q tbl_2 179 rfl rfl
theorem q_t2_180 : (Cond.selects "SheetFolder" ⟨"SheetFolder", "swingAngle", "()I"⟩ ⟨"SheetFolder", "swingAngle", "()I"⟩) ∈ WA := wa_q tbl_2 180 rfl rfl
theorem q_t2_181 : (Cond.code ⟨"SheetFolder", "swingAngle", "()I"⟩ prog_1_method_17_code 1 (some .int)) ∈ WA := wa_q tbl_2 181 rfl rfl
theorem q_t2_183 : (Cond.instanceMethod ⟨"SheetFolder", "finishedWidth", "()I"⟩) ∈ WA := wa_q tbl_2 183 rfl rfl
theorem q_t2_184 : (Cond.selects "SheetFolder" ⟨"SheetFolder", "finishedWidth", "()I"⟩ ⟨"SheetFolder", "finishedWidth", "()I"⟩) ∈ WA := wa_q tbl_2 184 rfl rfl
theorem q_t2_185 : (Cond.code ⟨"SheetFolder", "finishedWidth", "()I"⟩ prog_1_method_19_code 1 (some .int)) ∈ WA := wa_q tbl_2 185 rfl rfl
theorem q_t2_186 : (Cond.methodLink "SheetFolder" 146 ⟨"SheetFolder$Places", "layFinished", "(LSheetFolder$Part;)V"⟩) ∈ WA := wa_q tbl_2 186 rfl rfl
theorem q_t2_187 : (Cond.instanceMethod ⟨"SheetFolder$Places", "layFinished", "(LSheetFolder$Part;)V"⟩) ∈ WA := wa_q tbl_2 187 rfl rfl
theorem q_t2_188 : (Cond.selects "SheetFolder$Places" ⟨"SheetFolder$Places", "layFinished", "(LSheetFolder$Part;)V"⟩ ⟨"SheetFolder$Places", "layFinished", "(LSheetFolder$Part;)V"⟩) ∈ WA := wa_q tbl_2 188 rfl rfl
theorem q_t2_189 : (Cond.code ⟨"SheetFolder$Places", "layFinished", "(LSheetFolder$Part;)V"⟩ prog_4_method_2_code 2 none) ∈ WA := wa_q tbl_2 189 rfl rfl
theorem q_t2_190 : (Cond.methodLink "SheetFolder$Places" 43 ⟨"SheetFolder$Part", "allBends", "()I"⟩) ∈ WA := wa_q tbl_2 190 rfl rfl
theorem q_t2_191 : (Cond.instanceMethod ⟨"SheetFolder$Part", "allBends", "()I"⟩) ∈ WA := wa_q tbl_2 191 rfl rfl
theorem q_t2_192 : (Cond.selects "SheetFolder$Part" ⟨"SheetFolder$Part", "allBends", "()I"⟩ ⟨"SheetFolder$Part", "allBends", "()I"⟩) ∈ WA := wa_q tbl_2 192 rfl rfl
theorem q_t2_193 : (Cond.code ⟨"SheetFolder$Part", "allBends", "()I"⟩ prog_3_method_11_code 1 (some .int)) ∈ WA := wa_q tbl_2 193 rfl rfl
theorem q_t2_194 : (Cond.methodLink "SheetFolder$Part" 89 ⟨"SheetFolder$Part", "bendCount", "()I"⟩) ∈ WA := wa_q tbl_2 194 rfl rfl
theorem q_t2_195 : (Cond.methodLink "SheetFolder$Places" 50 ⟨"SheetFolder$Places", "walk", "(LSheetFolder$Part;IIIIII)V"⟩) ∈ WA := wa_q tbl_2 195 rfl rfl
theorem q_t2_197 : (Cond.instanceMethod ⟨"SheetFolder$Places", "walk", "(LSheetFolder$Part;IIIIII)V"⟩) ∈ WA := wa_q tbl_2 197 rfl rfl
theorem q_t2_198 : (Cond.code ⟨"SheetFolder$Places", "walk", "(LSheetFolder$Part;IIIIII)V"⟩ prog_4_method_4_code 15 none) ∈ WA := wa_q tbl_2 198 rfl rfl
theorem q_t2_199 : (Cond.methodLink "SheetFolder$Places" 61 ⟨"java/lang/Math", "min", "(II)I"⟩) ∈ WA := wa_q tbl_2 199 rfl rfl
theorem q_t2_200 : (Cond.static ⟨"java/lang/Math", "min", "(II)I"⟩) ∈ WA := wa_q tbl_2 200 rfl rfl
theorem q_t2_201 : (Cond.code ⟨"java/lang/Math", "min", "(II)I"⟩ prog_19_method_69_code 2 (some .int)) ∈ WA := wa_q tbl_2 201 rfl rfl
theorem q_t2_202 : (Cond.methodLink "SheetFolder$Places" 67 ⟨"java/lang/Math", "max", "(II)I"⟩) ∈ WA := wa_q tbl_2 202 rfl rfl
theorem q_t2_203 : (Cond.static ⟨"java/lang/Math", "max", "(II)I"⟩) ∈ WA := wa_q tbl_2 203 rfl rfl
theorem q_t2_204 : (Cond.code ⟨"java/lang/Math", "max", "(II)I"⟩ prog_19_method_65_code 2 (some .int)) ∈ WA := wa_q tbl_2 204 rfl rfl
theorem q_t2_205 : (Cond.methodLink "SheetFolder" 152 ⟨"SheetFolder$Places", "extent", "([II)I"⟩) ∈ WA := wa_q tbl_2 205 rfl rfl
theorem q_t2_206 : (Cond.static ⟨"SheetFolder$Places", "extent", "([II)I"⟩) ∈ WA := wa_q tbl_2 206 rfl rfl
theorem q_t2_207 : (Cond.code ⟨"SheetFolder$Places", "extent", "([II)I"⟩ prog_4_method_8_code 5 (some .int)) ∈ WA := wa_q tbl_2 207 rfl rfl
theorem q_t2_209 : (Cond.instanceMethod ⟨"SheetFolder", "finishedHeight", "()I"⟩) ∈ WA := wa_q tbl_2 209 rfl rfl
theorem q_t2_210 : (Cond.selects "SheetFolder" ⟨"SheetFolder", "finishedHeight", "()I"⟩ ⟨"SheetFolder", "finishedHeight", "()I"⟩) ∈ WA := wa_q tbl_2 210 rfl rfl
theorem q_t2_211 : (Cond.code ⟨"SheetFolder", "finishedHeight", "()I"⟩ prog_1_method_20_code 1 (some .int)) ∈ WA := wa_q tbl_2 211 rfl rfl
theorem q_t2_213 : (Cond.instanceMethod ⟨"SheetFolder", "isFinishedCrossed", "()Z"⟩) ∈ WA := wa_q tbl_2 213 rfl rfl
theorem q_t2_214 : (Cond.selects "SheetFolder" ⟨"SheetFolder", "isFinishedCrossed", "()Z"⟩ ⟨"SheetFolder", "isFinishedCrossed", "()Z"⟩) ∈ WA := wa_q tbl_2 214 rfl rfl
theorem q_t2_215 : (Cond.code ⟨"SheetFolder", "isFinishedCrossed", "()Z"⟩ prog_1_method_21_code 1 (some .boolean)) ∈ WA := wa_q tbl_2 215 rfl rfl
theorem q_t2_216 : (Cond.methodLink "SheetFolder" 159 ⟨"SheetFolder$Places", "crossesItself", "()Z"⟩) ∈ WA := wa_q tbl_2 216 rfl rfl
theorem q_t2_217 : (Cond.instanceMethod ⟨"SheetFolder$Places", "crossesItself", "()Z"⟩) ∈ WA := wa_q tbl_2 217 rfl rfl
theorem q_t2_218 : (Cond.selects "SheetFolder$Places" ⟨"SheetFolder$Places", "crossesItself", "()Z"⟩ ⟨"SheetFolder$Places", "crossesItself", "()Z"⟩) ∈ WA := wa_q tbl_2 218 rfl rfl
theorem q_t2_219 : (Cond.code ⟨"SheetFolder$Places", "crossesItself", "()Z"⟩ prog_4_method_11_code 3 (some .boolean)) ∈ WA := wa_q tbl_2 219 rfl rfl
theorem q_t2_220 : (Cond.methodLink "SheetFolder$Places" 80 ⟨"SheetFolder$Places", "touch", "(II)Z"⟩) ∈ WA := wa_q tbl_2 220 rfl rfl
theorem q_t2_222 : (Cond.instanceMethod ⟨"SheetFolder$Places", "touch", "(II)Z"⟩) ∈ WA := wa_q tbl_2 222 rfl rfl
theorem q_t2_223 : (Cond.code ⟨"SheetFolder$Places", "touch", "(II)Z"⟩ prog_4_method_12_code 3 (some .boolean)) ∈ WA := wa_q tbl_2 223 rfl rfl
theorem q_t2_225 : (Cond.instanceMethod ⟨"SheetFolder", "isSymmetric", "()Z"⟩) ∈ WA := wa_q tbl_2 225 rfl rfl
theorem q_t2_226 : (Cond.selects "SheetFolder" ⟨"SheetFolder", "isSymmetric", "()Z"⟩ ⟨"SheetFolder", "isSymmetric", "()Z"⟩) ∈ WA := wa_q tbl_2 226 rfl rfl
theorem q_t2_227 : (Cond.code ⟨"SheetFolder", "isSymmetric", "()Z"⟩ prog_1_method_23_code 1 (some .boolean)) ∈ WA := wa_q tbl_2 227 rfl rfl
theorem q_t2_228 : (Cond.methodLink "SheetFolder" 167 ⟨"SheetFolder$Part", "isSameFromOtherEnd", "()Z"⟩) ∈ WA := wa_q tbl_2 228 rfl rfl
theorem q_t2_229 : (Cond.instanceMethod ⟨"SheetFolder$Part", "isSameFromOtherEnd", "()Z"⟩) ∈ WA := wa_q tbl_2 229 rfl rfl
theorem q_t2_230 : (Cond.selects "SheetFolder$Part" ⟨"SheetFolder$Part", "isSameFromOtherEnd", "()Z"⟩ ⟨"SheetFolder$Part", "isSameFromOtherEnd", "()Z"⟩) ∈ WA := wa_q tbl_2 230 rfl rfl
theorem q_t2_231 : (Cond.code ⟨"SheetFolder$Part", "isSameFromOtherEnd", "()Z"⟩ prog_3_method_14_code 2 (some .boolean)) ∈ WA := wa_q tbl_2 231 rfl rfl
theorem q_t2_232 : (Cond.methodLink "SheetFolder$Part" 93 ⟨"SheetFolder$Part", "goesUp", "(I)Z"⟩) ∈ WA := wa_q tbl_2 232 rfl rfl
theorem q_t2_233 : (Cond.instanceMethod ⟨"SheetFolder$Part", "goesUp", "(I)Z"⟩) ∈ WA := wa_q tbl_2 233 rfl rfl
theorem q_t2_234 : (Cond.selects "SheetFolder$Part" ⟨"SheetFolder$Part", "goesUp", "(I)Z"⟩ ⟨"SheetFolder$Part", "goesUp", "(I)Z"⟩) ∈ WA := wa_q tbl_2 234 rfl rfl
theorem q_t2_235 : (Cond.code ⟨"SheetFolder$Part", "goesUp", "(I)Z"⟩ prog_3_method_12_code 2 (some .boolean)) ∈ WA := wa_q tbl_2 235 rfl rfl
theorem q_t2_237 : (Cond.instanceMethod ⟨"SheetFolder", "longestLeg", "()I"⟩) ∈ WA := wa_q tbl_2 237 rfl rfl
theorem q_t2_238 : (Cond.selects "SheetFolder" ⟨"SheetFolder", "longestLeg", "()I"⟩ ⟨"SheetFolder", "longestLeg", "()I"⟩) ∈ WA := wa_q tbl_2 238 rfl rfl
theorem q_t2_239 : (Cond.code ⟨"SheetFolder", "longestLeg", "()I"⟩ prog_1_method_24_code 3 (some .int)) ∈ WA := wa_q tbl_2 239 rfl rfl
theorem q_t3_1 : (Cond.instanceMethod ⟨"SheetFolder", "made", "()I"⟩) ∈ WA := wa_q tbl_3 1 rfl rfl
theorem q_t3_2 : (Cond.selects "SheetFolder" ⟨"SheetFolder", "made", "()I"⟩ ⟨"SheetFolder", "made", "()I"⟩) ∈ WA := wa_q tbl_3 2 rfl rfl
theorem q_t3_3 : (Cond.code ⟨"SheetFolder", "made", "()I"⟩ prog_1_method_25_code 1 (some .int)) ∈ WA := wa_q tbl_3 3 rfl rfl
theorem q_t3_5 : (Cond.instanceMethod ⟨"SheetFolder", "steps", "()I"⟩) ∈ WA := wa_q tbl_3 5 rfl rfl
theorem q_t3_6 : (Cond.selects "SheetFolder" ⟨"SheetFolder", "steps", "()I"⟩ ⟨"SheetFolder", "steps", "()I"⟩) ∈ WA := wa_q tbl_3 6 rfl rfl
theorem q_t3_7 : (Cond.code ⟨"SheetFolder", "steps", "()I"⟩ prog_1_method_26_code 1 (some .int)) ∈ WA := wa_q tbl_3 7 rfl rfl
theorem q_t3_9 : (Cond.instanceMethod ⟨"SheetFolder", "costSoFar", "()I"⟩) ∈ WA := wa_q tbl_3 9 rfl rfl
theorem q_t3_10 : (Cond.selects "SheetFolder" ⟨"SheetFolder", "costSoFar", "()I"⟩ ⟨"SheetFolder", "costSoFar", "()I"⟩) ∈ WA := wa_q tbl_3 10 rfl rfl
theorem q_t3_11 : (Cond.code ⟨"SheetFolder", "costSoFar", "()I"⟩ prog_1_method_28_code 1 (some .int)) ∈ WA := wa_q tbl_3 11 rfl rfl
theorem q_t3_12 : (Cond.methodLink "SheetFolder" 190 ⟨"SheetFolder$Part", "sumOfCosts", "()I"⟩) ∈ WA := wa_q tbl_3 12 rfl rfl
theorem q_t3_13 : (Cond.instanceMethod ⟨"SheetFolder$Part", "sumOfCosts", "()I"⟩) ∈ WA := wa_q tbl_3 13 rfl rfl
theorem q_t3_14 : (Cond.selects "SheetFolder$Part" ⟨"SheetFolder$Part", "sumOfCosts", "()I"⟩ ⟨"SheetFolder$Part", "sumOfCosts", "()I"⟩) ∈ WA := wa_q tbl_3 14 rfl rfl
theorem q_t3_15 : (Cond.code ⟨"SheetFolder$Part", "sumOfCosts", "()I"⟩ prog_3_method_23_code 3 (some .int)) ∈ WA := wa_q tbl_3 15 rfl rfl
theorem q_t3_17 : (Cond.instanceMethod ⟨"SheetFolder", "possible", "()I"⟩) ∈ WA := wa_q tbl_3 17 rfl rfl
theorem q_t3_18 : (Cond.selects "SheetFolder" ⟨"SheetFolder", "possible", "()I"⟩ ⟨"SheetFolder", "possible", "()I"⟩) ∈ WA := wa_q tbl_3 18 rfl rfl
theorem q_t3_19 : (Cond.code ⟨"SheetFolder", "possible", "()I"⟩ prog_1_method_35_code 1 (some .int)) ∈ WA := wa_q tbl_3 19 rfl rfl
theorem q_t3_20 : (Cond.methodLink "SheetFolder" 215 ⟨"SheetFolder$Places", "possibleSteps", "(LSheetFolder$Part;I)I"⟩) ∈ WA := wa_q tbl_3 20 rfl rfl
theorem q_t3_21 : (Cond.instanceMethod ⟨"SheetFolder$Places", "possibleSteps", "(LSheetFolder$Part;I)I"⟩) ∈ WA := wa_q tbl_3 21 rfl rfl
theorem q_t3_22 : (Cond.selects "SheetFolder$Places" ⟨"SheetFolder$Places", "possibleSteps", "(LSheetFolder$Part;I)I"⟩ ⟨"SheetFolder$Places", "possibleSteps", "(LSheetFolder$Part;I)I"⟩) ∈ WA := wa_q tbl_3 22 rfl rfl
theorem q_t3_23 : (Cond.code ⟨"SheetFolder$Places", "possibleSteps", "(LSheetFolder$Part;I)I"⟩ prog_4_method_14_code 5 (some .int)) ∈ WA := wa_q tbl_3 23 rfl rfl
theorem q_t3_24 : (Cond.methodLink "SheetFolder$Places" 99 ⟨"SheetFolder$Part", "bendCount", "()I"⟩) ∈ WA := wa_q tbl_3 24 rfl rfl
theorem q_t3_25 : (Cond.methodLink "SheetFolder$Places" 102 ⟨"SheetFolder$Places", "reasonFor", "(LSheetFolder$Part;II)I"⟩) ∈ WA := wa_q tbl_3 25 rfl rfl
theorem q_t3_26 : (Cond.instanceMethod ⟨"SheetFolder$Places", "reasonFor", "(LSheetFolder$Part;II)I"⟩) ∈ WA := wa_q tbl_3 26 rfl rfl
theorem q_t3_27 : (Cond.selects "SheetFolder$Places" ⟨"SheetFolder$Places", "reasonFor", "(LSheetFolder$Part;II)I"⟩ ⟨"SheetFolder$Places", "reasonFor", "(LSheetFolder$Part;II)I"⟩) ∈ WA := wa_q tbl_3 27 rfl rfl
theorem q_t3_28 : (Cond.code ⟨"SheetFolder$Places", "reasonFor", "(LSheetFolder$Part;II)I"⟩ prog_4_method_13_code 9 (some .int)) ∈ WA := wa_q tbl_3 28 rfl rfl
theorem q_t3_29 : (Cond.methodLink "SheetFolder$Places" 84 ⟨"SheetFolder$Places", "layStep", "(LSheetFolder$Part;II)V"⟩) ∈ WA := wa_q tbl_3 29 rfl rfl
theorem q_t3_30 : (Cond.instanceMethod ⟨"SheetFolder$Places", "layStep", "(LSheetFolder$Part;II)V"⟩) ∈ WA := wa_q tbl_3 30 rfl rfl
theorem q_t3_31 : (Cond.selects "SheetFolder$Places" ⟨"SheetFolder$Places", "layStep", "(LSheetFolder$Part;II)V"⟩ ⟨"SheetFolder$Places", "layStep", "(LSheetFolder$Part;II)V"⟩) ∈ WA := wa_q tbl_3 31 rfl rfl
theorem q_t3_32 : (Cond.code ⟨"SheetFolder$Places", "layStep", "(LSheetFolder$Part;II)V"⟩ prog_4_method_3_code 6 none) ∈ WA := wa_q tbl_3 32 rfl rfl
theorem q_t3_33 : (Cond.methodLink "SheetFolder$Places" 54 ⟨"SheetFolder$Part", "goesUp", "(I)Z"⟩) ∈ WA := wa_q tbl_3 33 rfl rfl
theorem q_t3_34 : (Cond.methodLink "SheetFolder$Places" 88 ⟨"SheetFolder$Places", "reachToBack", "()I"⟩) ∈ WA := wa_q tbl_3 34 rfl rfl
theorem q_t3_35 : (Cond.instanceMethod ⟨"SheetFolder$Places", "reachToBack", "()I"⟩) ∈ WA := wa_q tbl_3 35 rfl rfl
theorem q_t3_36 : (Cond.selects "SheetFolder$Places" ⟨"SheetFolder$Places", "reachToBack", "()I"⟩ ⟨"SheetFolder$Places", "reachToBack", "()I"⟩) ∈ WA := wa_q tbl_3 36 rfl rfl
theorem q_t3_37 : (Cond.code ⟨"SheetFolder$Places", "reachToBack", "()I"⟩ prog_4_method_6_code 3 (some .int)) ∈ WA := wa_q tbl_3 37 rfl rfl
theorem q_t3_38 : (Cond.methodLink "SheetFolder$Places" 70 ⟨"SheetFolder$Places", "isClamped", "(I)Z"⟩) ∈ WA := wa_q tbl_3 38 rfl rfl
theorem q_t3_40 : (Cond.instanceMethod ⟨"SheetFolder$Places", "isClamped", "(I)Z"⟩) ∈ WA := wa_q tbl_3 40 rfl rfl
theorem q_t3_41 : (Cond.code ⟨"SheetFolder$Places", "isClamped", "(I)Z"⟩ prog_4_method_5_code 2 (some .boolean)) ∈ WA := wa_q tbl_3 41 rfl rfl
theorem q_t3_42 : (Cond.methodLink "SheetFolder$Places" 91 ⟨"SheetFolder$Places", "legsHitting", "(LSheetFolder$Part;)I"⟩) ∈ WA := wa_q tbl_3 42 rfl rfl
theorem q_t3_43 : (Cond.instanceMethod ⟨"SheetFolder$Places", "legsHitting", "(LSheetFolder$Part;)I"⟩) ∈ WA := wa_q tbl_3 43 rfl rfl
theorem q_t3_44 : (Cond.selects "SheetFolder$Places" ⟨"SheetFolder$Places", "legsHitting", "(LSheetFolder$Part;)I"⟩ ⟨"SheetFolder$Places", "legsHitting", "(LSheetFolder$Part;)I"⟩) ∈ WA := wa_q tbl_3 44 rfl rfl
theorem q_t3_45 : (Cond.code ⟨"SheetFolder$Places", "legsHitting", "(LSheetFolder$Part;)I"⟩ prog_4_method_9_code 6 (some .int)) ∈ WA := wa_q tbl_3 45 rfl rfl
theorem q_t3_46 : (Cond.methodLink "SheetFolder$Places" 76 ⟨"SheetFolder$Places", "enters", "(IIIII)Z"⟩) ∈ WA := wa_q tbl_3 46 rfl rfl
theorem q_t3_48 : (Cond.instanceMethod ⟨"SheetFolder$Places", "enters", "(IIIII)Z"⟩) ∈ WA := wa_q tbl_3 48 rfl rfl
theorem q_t3_49 : (Cond.code ⟨"SheetFolder$Places", "enters", "(IIIII)Z"⟩ prog_4_method_10_code 6 (some .boolean)) ∈ WA := wa_q tbl_3 49 rfl rfl
theorem q_t3_50 : (Cond.methodLink "SheetFolder$Places" 95 ⟨"SheetFolder$Places", "crossesItself", "()Z"⟩) ∈ WA := wa_q tbl_3 50 rfl rfl
theorem q_t3_52 : (Cond.instanceMethod ⟨"SheetFolder", "stuck", "()I"⟩) ∈ WA := wa_q tbl_3 52 rfl rfl
theorem q_t3_53 : (Cond.selects "SheetFolder" ⟨"SheetFolder", "stuck", "()I"⟩ ⟨"SheetFolder", "stuck", "()I"⟩) ∈ WA := wa_q tbl_3 53 rfl rfl
theorem q_t3_54 : (Cond.code ⟨"SheetFolder", "stuck", "()I"⟩ prog_1_method_36_code 5 (some .int)) ∈ WA := wa_q tbl_3 54 rfl rfl
theorem q_t3_56 : (Cond.instanceMethod ⟨"SheetFolder", "orders", "()J"⟩) ∈ WA := wa_q tbl_3 56 rfl rfl
theorem q_t3_57 : (Cond.selects "SheetFolder" ⟨"SheetFolder", "orders", "()J"⟩ ⟨"SheetFolder", "orders", "()J"⟩) ∈ WA := wa_q tbl_3 57 rfl rfl
theorem q_t3_58 : (Cond.code ⟨"SheetFolder", "orders", "()J"⟩ prog_1_method_41_code 1 (some .long)) ∈ WA := wa_q tbl_3 58 rfl rfl
theorem q_t3_59 : (Cond.methodLink "SheetFolder" 239 ⟨"SheetFolder$Planner", "prepare", "(LSheetFolder$Part;)V"⟩) ∈ WA := wa_q tbl_3 59 rfl rfl
theorem q_t3_60 : (Cond.instanceMethod ⟨"SheetFolder$Planner", "prepare", "(LSheetFolder$Part;)V"⟩) ∈ WA := wa_q tbl_3 60 rfl rfl
theorem q_t3_61 : (Cond.selects "SheetFolder$Planner" ⟨"SheetFolder$Planner", "prepare", "(LSheetFolder$Part;)V"⟩ ⟨"SheetFolder$Planner", "prepare", "(LSheetFolder$Part;)V"⟩) ∈ WA := wa_q tbl_3 61 rfl rfl
theorem q_t3_62 : (Cond.code ⟨"SheetFolder$Planner", "prepare", "(LSheetFolder$Part;)V"⟩ prog_5_method_2_code 2 none) ∈ WA := wa_q tbl_3 62 rfl rfl
theorem q_t3_63 : (Cond.methodLink "SheetFolder$Planner" 66 ⟨"SheetFolder$Part", "bendsLike", "(LSheetFolder$Part;)Z"⟩) ∈ WA := wa_q tbl_3 63 rfl rfl
theorem q_t3_64 : (Cond.instanceMethod ⟨"SheetFolder$Part", "bendsLike", "(LSheetFolder$Part;)Z"⟩) ∈ WA := wa_q tbl_3 64 rfl rfl
theorem q_t3_65 : (Cond.selects "SheetFolder$Part" ⟨"SheetFolder$Part", "bendsLike", "(LSheetFolder$Part;)Z"⟩ ⟨"SheetFolder$Part", "bendsLike", "(LSheetFolder$Part;)Z"⟩) ∈ WA := wa_q tbl_3 65 rfl rfl
theorem q_t3_66 : (Cond.code ⟨"SheetFolder$Part", "bendsLike", "(LSheetFolder$Part;)Z"⟩ prog_3_method_25_code 3 (some .boolean)) ∈ WA := wa_q tbl_3 66 rfl rfl
theorem q_t3_67 : (Cond.methodLink "SheetFolder$Planner" 70 ⟨"SheetFolder$Part", "goesOnLike", "(LSheetFolder$Part;)Z"⟩) ∈ WA := wa_q tbl_3 67 rfl rfl
theorem q_t3_68 : (Cond.instanceMethod ⟨"SheetFolder$Part", "goesOnLike", "(LSheetFolder$Part;)Z"⟩) ∈ WA := wa_q tbl_3 68 rfl rfl
theorem q_t3_69 : (Cond.selects "SheetFolder$Part" ⟨"SheetFolder$Part", "goesOnLike", "(LSheetFolder$Part;)Z"⟩ ⟨"SheetFolder$Part", "goesOnLike", "(LSheetFolder$Part;)Z"⟩) ∈ WA := wa_q tbl_3 69 rfl rfl
theorem q_t3_70 : (Cond.code ⟨"SheetFolder$Part", "goesOnLike", "(LSheetFolder$Part;)Z"⟩ prog_3_method_26_code 2 (some .boolean)) ∈ WA := wa_q tbl_3 70 rfl rfl
theorem q_t3_71 : (Cond.methodLink "SheetFolder$Part" 109 ⟨"SheetFolder$Part", "lastCode", "()I"⟩) ∈ WA := wa_q tbl_3 71 rfl rfl
theorem q_t3_72 : (Cond.instanceMethod ⟨"SheetFolder$Part", "lastCode", "()I"⟩) ∈ WA := wa_q tbl_3 72 rfl rfl
theorem q_t3_73 : (Cond.selects "SheetFolder$Part" ⟨"SheetFolder$Part", "lastCode", "()I"⟩ ⟨"SheetFolder$Part", "lastCode", "()I"⟩) ∈ WA := wa_q tbl_3 73 rfl rfl
theorem q_t3_74 : (Cond.code ⟨"SheetFolder$Part", "lastCode", "()I"⟩ prog_3_method_21_code 1 (some .int)) ∈ WA := wa_q tbl_3 74 rfl rfl
theorem q_t3_75 : (Cond.methodLink "SheetFolder$Part" 112 ⟨"SheetFolder$Part", "lastGauge", "()I"⟩) ∈ WA := wa_q tbl_3 75 rfl rfl
theorem q_t3_76 : (Cond.instanceMethod ⟨"SheetFolder$Part", "lastGauge", "()I"⟩) ∈ WA := wa_q tbl_3 76 rfl rfl
theorem q_t3_77 : (Cond.selects "SheetFolder$Part" ⟨"SheetFolder$Part", "lastGauge", "()I"⟩ ⟨"SheetFolder$Part", "lastGauge", "()I"⟩) ∈ WA := wa_q tbl_3 77 rfl rfl
theorem q_t3_78 : (Cond.code ⟨"SheetFolder$Part", "lastGauge", "()I"⟩ prog_3_method_22_code 1 (some .int)) ∈ WA := wa_q tbl_3 78 rfl rfl
theorem q_t3_79 : (Cond.methodLink "SheetFolder$Planner" 73 ⟨"SheetFolder$Planner", "reachSets", "(LSheetFolder$Part;)V"⟩) ∈ WA := wa_q tbl_3 79 rfl rfl
theorem q_t3_81 : (Cond.instanceMethod ⟨"SheetFolder$Planner", "reachSets", "(LSheetFolder$Part;)V"⟩) ∈ WA := wa_q tbl_3 81 rfl rfl
theorem q_t3_82 : (Cond.code ⟨"SheetFolder$Planner", "reachSets", "(LSheetFolder$Part;)V"⟩ prog_5_method_8_code 4 none) ∈ WA := wa_q tbl_3 82 rfl rfl
theorem q_t3_83 : (Cond.methodLink "SheetFolder$Planner" 108 ⟨"SheetFolder$Part", "copyFrom", "(LSheetFolder$Part;)V"⟩) ∈ WA := wa_q tbl_3 83 rfl rfl
theorem q_t3_84 : (Cond.instanceMethod ⟨"SheetFolder$Part", "copyFrom", "(LSheetFolder$Part;)V"⟩) ∈ WA := wa_q tbl_3 84 rfl rfl
theorem q_t3_85 : (Cond.selects "SheetFolder$Part" ⟨"SheetFolder$Part", "copyFrom", "(LSheetFolder$Part;)V"⟩ ⟨"SheetFolder$Part", "copyFrom", "(LSheetFolder$Part;)V"⟩) ∈ WA := wa_q tbl_3 85 rfl rfl
theorem q_t3_86 : (Cond.code ⟨"SheetFolder$Part", "copyFrom", "(LSheetFolder$Part;)V"⟩ prog_3_method_3_code 2 none) ∈ WA := wa_q tbl_3 86 rfl rfl
theorem q_t3_87 : (Cond.methodLink "SheetFolder$Part" 83 ⟨"java/lang/System", "arraycopy", "(Ljava/lang/Object;ILjava/lang/Object;II)V"⟩) ∈ WA := wa_q tbl_3 87 rfl rfl
theorem q_t3_88 : (Cond.static ⟨"java/lang/System", "arraycopy", "(Ljava/lang/Object;ILjava/lang/Object;II)V"⟩) ∈ WA := wa_q tbl_3 88 rfl rfl
theorem q_t3_89 : (Cond.native ⟨"java/lang/System", "arraycopy", "(Ljava/lang/Object;ILjava/lang/Object;II)V"⟩) ∈ WA := wa_q tbl_3 89 rfl rfl
theorem q_t3_90 : (Cond.methodLink "SheetFolder$Planner" 111 ⟨"SheetFolder$Planner", "findSteps", "(LSheetFolder$Part;I)I"⟩) ∈ WA := wa_q tbl_3 90 rfl rfl
theorem q_t3_92 : (Cond.instanceMethod ⟨"SheetFolder$Planner", "findSteps", "(LSheetFolder$Part;I)I"⟩) ∈ WA := wa_q tbl_3 92 rfl rfl
theorem q_t3_93 : (Cond.code ⟨"SheetFolder$Planner", "findSteps", "(LSheetFolder$Part;I)I"⟩ prog_5_method_9_code 5 (some .int)) ∈ WA := wa_q tbl_3 93 rfl rfl
theorem q_t3_94 : (Cond.methodLink "SheetFolder$Planner" 90 ⟨"SheetFolder$Part", "bendCount", "()I"⟩) ∈ WA := wa_q tbl_3 94 rfl rfl
theorem q_t3_95 : (Cond.methodLink "SheetFolder$Planner" 122 ⟨"SheetFolder$Places", "reasonFor", "(LSheetFolder$Part;II)I"⟩) ∈ WA := wa_q tbl_3 95 rfl rfl
theorem q_t3_96 : (Cond.methodLink "SheetFolder$Planner" 126 ⟨"SheetFolder$Places", "reachToBack", "()I"⟩) ∈ WA := wa_q tbl_3 96 rfl rfl
theorem q_t3_97 : (Cond.methodLink "SheetFolder$Planner" 115 ⟨"SheetFolder$Planner", "isOpen", "(II)Z"⟩) ∈ WA := wa_q tbl_3 97 rfl rfl
theorem q_t3_99 : (Cond.instanceMethod ⟨"SheetFolder$Planner", "isOpen", "(II)Z"⟩) ∈ WA := wa_q tbl_3 99 rfl rfl
theorem q_t3_100 : (Cond.code ⟨"SheetFolder$Planner", "isOpen", "(II)Z"⟩ prog_5_method_10_code 3 (some .boolean)) ∈ WA := wa_q tbl_3 100 rfl rfl
theorem q_t3_101 : (Cond.methodLink "SheetFolder$Planner" 119 ⟨"SheetFolder$Planner", "setBehind", "(II)I"⟩) ∈ WA := wa_q tbl_3 101 rfl rfl
theorem q_t3_102 : (Cond.static ⟨"SheetFolder$Planner", "setBehind", "(II)I"⟩) ∈ WA := wa_q tbl_3 102 rfl rfl
theorem q_t3_103 : (Cond.code ⟨"SheetFolder$Planner", "setBehind", "(II)I"⟩ prog_5_method_11_code 2 (some .int)) ∈ WA := wa_q tbl_3 103 rfl rfl
theorem q_t3_104 : (Cond.methodLink "SheetFolder$Planner" 77 ⟨"SheetFolder$Planner", "countOrders", "(LSheetFolder$Part;)V"⟩) ∈ WA := wa_q tbl_3 104 rfl rfl
theorem q_t3_106 : (Cond.instanceMethod ⟨"SheetFolder$Planner", "countOrders", "(LSheetFolder$Part;)V"⟩) ∈ WA := wa_q tbl_3 106 rfl rfl
theorem q_t3_107 : (Cond.code ⟨"SheetFolder$Planner", "countOrders", "(LSheetFolder$Part;)V"⟩ prog_5_method_12_code 5 none) ∈ WA := wa_q tbl_3 107 rfl rfl
theorem q_t3_108 : (Cond.methodLink "SheetFolder$Planner" 86 ⟨"SheetFolder$Part", "allBends", "()I"⟩) ∈ WA := wa_q tbl_3 108 rfl rfl
theorem q_t3_109 : (Cond.methodLink "SheetFolder$Planner" 80 ⟨"SheetFolder$Planner", "reckonCosts", "(LSheetFolder$Part;)V"⟩) ∈ WA := wa_q tbl_3 109 rfl rfl
theorem q_t3_111 : (Cond.instanceMethod ⟨"SheetFolder$Planner", "reckonCosts", "(LSheetFolder$Part;)V"⟩) ∈ WA := wa_q tbl_3 111 rfl rfl
theorem q_t3_112 : (Cond.code ⟨"SheetFolder$Planner", "reckonCosts", "(LSheetFolder$Part;)V"⟩ prog_5_method_13_code 3 none) ∈ WA := wa_q tbl_3 112 rfl rfl
theorem q_t3_113 : (Cond.methodLink "SheetFolder$Planner" 129 ⟨"SheetFolder$Planner", "reckonCostsBehind", "(LSheetFolder$Part;I)V"⟩) ∈ WA := wa_q tbl_3 113 rfl rfl
theorem q_t3_115 : (Cond.instanceMethod ⟨"SheetFolder$Planner", "reckonCostsBehind", "(LSheetFolder$Part;I)V"⟩) ∈ WA := wa_q tbl_3 115 rfl rfl
theorem q_t3_116 : (Cond.code ⟨"SheetFolder$Planner", "reckonCostsBehind", "(LSheetFolder$Part;I)V"⟩ prog_5_method_14_code 6 none) ∈ WA := wa_q tbl_3 116 rfl rfl
theorem q_t3_117 : (Cond.methodLink "SheetFolder$Planner" 139 ⟨"SheetFolder$Planner", "costOnward", "(LSheetFolder$Part;IIIZ)I"⟩) ∈ WA := wa_q tbl_3 117 rfl rfl
theorem q_t3_119 : (Cond.instanceMethod ⟨"SheetFolder$Planner", "costOnward", "(LSheetFolder$Part;IIIZ)I"⟩) ∈ WA := wa_q tbl_3 119 rfl rfl
theorem q_t3_120 : (Cond.code ⟨"SheetFolder$Planner", "costOnward", "(LSheetFolder$Part;IIIZ)I"⟩ prog_5_method_15_code 10 (some .int)) ∈ WA := wa_q tbl_3 120 rfl rfl
theorem q_t3_121 : (Cond.methodLink "SheetFolder$Planner" 143 ⟨"SheetFolder$Planner", "costThrough", "(LSheetFolder$Part;IIIIZ)I"⟩) ∈ WA := wa_q tbl_3 121 rfl rfl
theorem q_t3_123 : (Cond.instanceMethod ⟨"SheetFolder$Planner", "costThrough", "(LSheetFolder$Part;IIIIZ)I"⟩) ∈ WA := wa_q tbl_3 123 rfl rfl
theorem q_t3_124 : (Cond.code ⟨"SheetFolder$Planner", "costThrough", "(LSheetFolder$Part;IIIIZ)I"⟩ prog_5_method_16_code 9 (some .int)) ∈ WA := wa_q tbl_3 124 rfl rfl
theorem q_t3_125 : (Cond.methodLink "SheetFolder$Planner" 147 ⟨"SheetFolder$Part", "priceBetween", "(IIII)I"⟩) ∈ WA := wa_q tbl_3 125 rfl rfl
theorem q_t3_126 : (Cond.instanceMethod ⟨"SheetFolder$Part", "priceBetween", "(IIII)I"⟩) ∈ WA := wa_q tbl_3 126 rfl rfl
theorem q_t3_127 : (Cond.selects "SheetFolder$Part" ⟨"SheetFolder$Part", "priceBetween", "(IIII)I"⟩ ⟨"SheetFolder$Part", "priceBetween", "(IIII)I"⟩) ∈ WA := wa_q tbl_3 127 rfl rfl
theorem q_t3_128 : (Cond.code ⟨"SheetFolder$Part", "priceBetween", "(IIII)I"⟩ prog_3_method_24_code 6 (some .int)) ∈ WA := wa_q tbl_3 128 rfl rfl
theorem q_t3_129 : (Cond.methodLink "SheetFolder$Planner" 133 ⟨"SheetFolder$Part", "lastCode", "()I"⟩) ∈ WA := wa_q tbl_3 129 rfl rfl
theorem q_t3_130 : (Cond.methodLink "SheetFolder$Planner" 136 ⟨"SheetFolder$Part", "lastGauge", "()I"⟩) ∈ WA := wa_q tbl_3 130 rfl rfl
theorem q_t3_131 : (Cond.methodLink "SheetFolder$Planner" 83 ⟨"SheetFolder$Planner", "choosePlan", "(LSheetFolder$Part;)V"⟩) ∈ WA := wa_q tbl_3 131 rfl rfl
theorem q_t3_133 : (Cond.instanceMethod ⟨"SheetFolder$Planner", "choosePlan", "(LSheetFolder$Part;)V"⟩) ∈ WA := wa_q tbl_3 133 rfl rfl
theorem q_t3_134 : (Cond.code ⟨"SheetFolder$Planner", "choosePlan", "(LSheetFolder$Part;)V"⟩ prog_5_method_17_code 8 none) ∈ WA := wa_q tbl_3 134 rfl rfl
theorem q_t3_135 : (Cond.methodLink "SheetFolder$Planner" 151 ⟨"SheetFolder$Planner", "smallestStep", "(LSheetFolder$Part;IIII)I"⟩) ∈ WA := wa_q tbl_3 135 rfl rfl
theorem q_t3_137 : (Cond.instanceMethod ⟨"SheetFolder$Planner", "smallestStep", "(LSheetFolder$Part;IIII)I"⟩) ∈ WA := wa_q tbl_3 137 rfl rfl
theorem q_t3_138 : (Cond.code ⟨"SheetFolder$Planner", "smallestStep", "(LSheetFolder$Part;IIII)I"⟩ prog_5_method_18_code 7 (some .int)) ∈ WA := wa_q tbl_3 138 rfl rfl
theorem q_t3_139 : (Cond.methodLink "SheetFolder" 242 ⟨"SheetFolder$Planner", "ordersFrom", "(I)J"⟩) ∈ WA := wa_q tbl_3 139 rfl rfl
theorem q_t3_140 : (Cond.instanceMethod ⟨"SheetFolder$Planner", "ordersFrom", "(I)J"⟩) ∈ WA := wa_q tbl_3 140 rfl rfl
theorem q_t3_141 : (Cond.selects "SheetFolder$Planner" ⟨"SheetFolder$Planner", "ordersFrom", "(I)J"⟩ ⟨"SheetFolder$Planner", "ordersFrom", "(I)J"⟩) ∈ WA := wa_q tbl_3 141 rfl rfl
theorem q_t3_142 : (Cond.code ⟨"SheetFolder$Planner", "ordersFrom", "(I)J"⟩ prog_5_method_4_code 3 (some .long)) ∈ WA := wa_q tbl_3 142 rfl rfl
theorem q_t3_144 : (Cond.instanceMethod ⟨"SheetFolder", "leastCost", "()I"⟩) ∈ WA := wa_q tbl_3 144 rfl rfl
theorem q_t3_145 : (Cond.selects "SheetFolder" ⟨"SheetFolder", "leastCost", "()I"⟩ ⟨"SheetFolder", "leastCost", "()I"⟩) ∈ WA := wa_q tbl_3 145 rfl rfl
theorem q_t3_146 : (Cond.code ⟨"SheetFolder", "leastCost", "()I"⟩ prog_1_method_42_code 1 (some .int)) ∈ WA := wa_q tbl_3 146 rfl rfl
theorem q_t3_148 : (Cond.instanceMethod ⟨"SheetFolder", "plannedSteps", "()I"⟩) ∈ WA := wa_q tbl_3 148 rfl rfl
theorem q_t3_149 : (Cond.selects "SheetFolder" ⟨"SheetFolder", "plannedSteps", "()I"⟩ ⟨"SheetFolder", "plannedSteps", "()I"⟩) ∈ WA := wa_q tbl_3 149 rfl rfl
theorem q_t3_150 : (Cond.code ⟨"SheetFolder", "plannedSteps", "()I"⟩ prog_1_method_43_code 1 (some .int)) ∈ WA := wa_q tbl_3 150 rfl rfl
theorem q_t3_152 : (Cond.instanceMethod ⟨"SheetFolder", "greatestCost", "()I"⟩) ∈ WA := wa_q tbl_3 152 rfl rfl
theorem q_t3_153 : (Cond.selects "SheetFolder" ⟨"SheetFolder", "greatestCost", "()I"⟩ ⟨"SheetFolder", "greatestCost", "()I"⟩) ∈ WA := wa_q tbl_3 153 rfl rfl
theorem q_t3_154 : (Cond.code ⟨"SheetFolder", "greatestCost", "()I"⟩ prog_1_method_45_code 1 (some .int)) ∈ WA := wa_q tbl_3 154 rfl rfl
theorem q_t3_156 : (Cond.instanceMethod ⟨"SheetFolder", "lastSteps", "()I"⟩) ∈ WA := wa_q tbl_3 156 rfl rfl
theorem q_t3_157 : (Cond.selects "SheetFolder" ⟨"SheetFolder", "lastSteps", "()I"⟩ ⟨"SheetFolder", "lastSteps", "()I"⟩) ∈ WA := wa_q tbl_3 157 rfl rfl
theorem q_t3_158 : (Cond.code ⟨"SheetFolder", "lastSteps", "()I"⟩ prog_1_method_47_code 1 (some .int)) ∈ WA := wa_q tbl_3 158 rfl rfl
theorem q_t3_159 : (Cond.methodLink "SheetFolder" 260 ⟨"SheetFolder$Planner", "stepsAtTheEnd", "(LSheetFolder$Part;)I"⟩) ∈ WA := wa_q tbl_3 159 rfl rfl
theorem q_t3_160 : (Cond.instanceMethod ⟨"SheetFolder$Planner", "stepsAtTheEnd", "(LSheetFolder$Part;)I"⟩) ∈ WA := wa_q tbl_3 160 rfl rfl
theorem q_t3_161 : (Cond.selects "SheetFolder$Planner" ⟨"SheetFolder$Planner", "stepsAtTheEnd", "(LSheetFolder$Part;)I"⟩ ⟨"SheetFolder$Planner", "stepsAtTheEnd", "(LSheetFolder$Part;)I"⟩) ∈ WA := wa_q tbl_3 161 rfl rfl
theorem q_t3_162 : (Cond.code ⟨"SheetFolder$Planner", "stepsAtTheEnd", "(LSheetFolder$Part;)I"⟩ prog_5_method_5_code 6 (some .int)) ∈ WA := wa_q tbl_3 162 rfl rfl
theorem q_t3_164 : (Cond.instanceMethod ⟨"SheetFolder", "mostBends", "()I"⟩) ∈ WA := wa_q tbl_3 164 rfl rfl
theorem q_t3_165 : (Cond.selects "SheetFolder" ⟨"SheetFolder", "mostBends", "()I"⟩ ⟨"SheetFolder", "mostBends", "()I"⟩) ∈ WA := wa_q tbl_3 165 rfl rfl
theorem q_t3_166 : (Cond.code ⟨"SheetFolder", "mostBends", "()I"⟩ prog_1_method_48_code 1 (some .int)) ∈ WA := wa_q tbl_3 166 rfl rfl
theorem q_t3_167 : (Cond.methodLink "SheetFolder" 263 ⟨"SheetFolder$Planner", "mostBendsFrom", "(LSheetFolder$Part;)I"⟩) ∈ WA := wa_q tbl_3 167 rfl rfl
theorem q_t3_168 : (Cond.instanceMethod ⟨"SheetFolder$Planner", "mostBendsFrom", "(LSheetFolder$Part;)I"⟩) ∈ WA := wa_q tbl_3 168 rfl rfl
theorem q_t3_169 : (Cond.selects "SheetFolder$Planner" ⟨"SheetFolder$Planner", "mostBendsFrom", "(LSheetFolder$Part;)I"⟩ ⟨"SheetFolder$Planner", "mostBendsFrom", "(LSheetFolder$Part;)I"⟩) ∈ WA := wa_q tbl_3 169 rfl rfl
theorem q_t3_170 : (Cond.code ⟨"SheetFolder$Planner", "mostBendsFrom", "(LSheetFolder$Part;)I"⟩ prog_5_method_6_code 4 (some .int)) ∈ WA := wa_q tbl_3 170 rfl rfl
theorem q_t3_171 : (Cond.methodLink "SheetFolder$Planner" 96 ⟨"java/lang/Integer", "bitCount", "(I)I"⟩) ∈ WA := wa_q tbl_3 171 rfl rfl
theorem q_t3_172 : (Cond.static ⟨"java/lang/Integer", "bitCount", "(I)I"⟩) ∈ WA := wa_q tbl_3 172 rfl rfl
theorem q_t3_173 : (Cond.code ⟨"java/lang/Integer", "bitCount", "(I)I"⟩ prog_18_method_49_code 1 (some .int)) ∈ WA := wa_q tbl_3 173 rfl rfl
theorem q_t3_174 : (Cond.constant "java/lang/Integer" 265 1431655765) ∈ WA := wa_q tbl_3 174 rfl rfl
theorem q_t3_175 : (Cond.constant "java/lang/Integer" 266 858993459) ∈ WA := wa_q tbl_3 175 rfl rfl
theorem q_t3_176 : (Cond.constant "java/lang/Integer" 267 252645135) ∈ WA := wa_q tbl_3 176 rfl rfl
theorem q_t3_177 : (Cond.methodLink "SheetFolder$Planner" 102 ⟨"java/lang/Math", "max", "(II)I"⟩) ∈ WA := wa_q tbl_3 177 rfl rfl
theorem q_t3_179 : (Cond.instanceMethod ⟨"SheetFolder", "greatestBeam", "()I"⟩) ∈ WA := wa_q tbl_3 179 rfl rfl
theorem q_t3_180 : (Cond.selects "SheetFolder" ⟨"SheetFolder", "greatestBeam", "()I"⟩ ⟨"SheetFolder", "greatestBeam", "()I"⟩) ∈ WA := wa_q tbl_3 180 rfl rfl
theorem q_t3_181 : (Cond.code ⟨"SheetFolder", "greatestBeam", "()I"⟩ prog_1_method_49_code 4 (some .int)) ∈ WA := wa_q tbl_3 181 rfl rfl
theorem q_t3_182 : (Cond.methodLink "SheetFolder" 77 ⟨"SheetFolder$Part", "copyFrom", "(LSheetFolder$Part;)V"⟩) ∈ WA := wa_q tbl_3 182 rfl rfl
theorem q_t3_183 : (Cond.methodLink "SheetFolder" 266 ⟨"SheetFolder$Planner", "reachesAll", "(LSheetFolder$Part;)Z"⟩) ∈ WA := wa_q tbl_3 183 rfl rfl
theorem q_t3_184 : (Cond.instanceMethod ⟨"SheetFolder$Planner", "reachesAll", "(LSheetFolder$Part;)Z"⟩) ∈ WA := wa_q tbl_3 184 rfl rfl
theorem q_t3_185 : (Cond.selects "SheetFolder$Planner" ⟨"SheetFolder$Planner", "reachesAll", "(LSheetFolder$Part;)Z"⟩ ⟨"SheetFolder$Planner", "reachesAll", "(LSheetFolder$Part;)Z"⟩) ∈ WA := wa_q tbl_3 185 rfl rfl
theorem q_t3_186 : (Cond.code ⟨"SheetFolder$Planner", "reachesAll", "(LSheetFolder$Part;)Z"⟩ prog_5_method_3_code 2 (some .boolean)) ∈ WA := wa_q tbl_3 186 rfl rfl
theorem q_t3_188 : (Cond.instanceMethod ⟨"SheetFolder", "unfold", "()I"⟩) ∈ WA := wa_q tbl_3 188 rfl rfl
theorem q_t3_189 : (Cond.selects "SheetFolder" ⟨"SheetFolder", "unfold", "()I"⟩ ⟨"SheetFolder", "unfold", "()I"⟩) ∈ WA := wa_q tbl_3 189 rfl rfl
theorem q_t3_190 : (Cond.code ⟨"SheetFolder", "unfold", "()I"⟩ prog_1_method_54_code 2 (some .int)) ∈ WA := wa_q tbl_3 190 rfl rfl
theorem q_t3_191 : (Cond.methodLink "SheetFolder" 286 ⟨"SheetFolder$History", "remember", "(LSheetFolder$Part;)V"⟩) ∈ WA := wa_q tbl_3 191 rfl rfl
theorem q_t3_192 : (Cond.instanceMethod ⟨"SheetFolder$History", "remember", "(LSheetFolder$Part;)V"⟩) ∈ WA := wa_q tbl_3 192 rfl rfl
theorem q_t3_193 : (Cond.selects "SheetFolder$History" ⟨"SheetFolder$History", "remember", "(LSheetFolder$Part;)V"⟩ ⟨"SheetFolder$History", "remember", "(LSheetFolder$Part;)V"⟩) ∈ WA := wa_q tbl_3 193 rfl rfl
theorem q_t3_194 : (Cond.code ⟨"SheetFolder$History", "remember", "(LSheetFolder$Part;)V"⟩ prog_2_method_3_code 2 none) ∈ WA := wa_q tbl_3 194 rfl rfl
theorem q_t3_195 : (Cond.methodLink "SheetFolder$History" 25 ⟨"SheetFolder$Part", "copyFrom", "(LSheetFolder$Part;)V"⟩) ∈ WA := wa_q tbl_3 195 rfl rfl
theorem q_t3_196 : (Cond.methodLink "SheetFolder" 293 ⟨"SheetFolder$Part", "dropSteps", "()V"⟩) ∈ WA := wa_q tbl_3 196 rfl rfl
theorem q_t3_198 : (Cond.instanceMethod ⟨"SheetFolder", "undo", "()I"⟩) ∈ WA := wa_q tbl_3 198 rfl rfl
theorem q_t3_199 : (Cond.selects "SheetFolder" ⟨"SheetFolder", "undo", "()I"⟩ ⟨"SheetFolder", "undo", "()I"⟩) ∈ WA := wa_q tbl_3 199 rfl rfl
theorem q_t3_200 : (Cond.code ⟨"SheetFolder", "undo", "()I"⟩ prog_1_method_60_code 1 (some .int)) ∈ WA := wa_q tbl_3 200 rfl rfl
theorem q_t3_201 : (Cond.methodLink "SheetFolder" 337 ⟨"SheetFolder$History", "takeBack", "(LSheetFolder$Part;)Z"⟩) ∈ WA := wa_q tbl_3 201 rfl rfl
theorem q_t3_202 : (Cond.instanceMethod ⟨"SheetFolder$History", "takeBack", "(LSheetFolder$Part;)Z"⟩) ∈ WA := wa_q tbl_3 202 rfl rfl
theorem q_t3_203 : (Cond.selects "SheetFolder$History" ⟨"SheetFolder$History", "takeBack", "(LSheetFolder$Part;)Z"⟩ ⟨"SheetFolder$History", "takeBack", "(LSheetFolder$Part;)Z"⟩) ∈ WA := wa_q tbl_3 203 rfl rfl
theorem q_t3_204 : (Cond.code ⟨"SheetFolder$History", "takeBack", "(LSheetFolder$Part;)Z"⟩ prog_2_method_4_code 2 (some .boolean)) ∈ WA := wa_q tbl_3 204 rfl rfl
theorem q_t4_41 : (Cond.fieldLink "java/lang/String" 1053 "jdk/internal/util/Preconditions" "SIOOBE_FORMATTER" "Ljava/util/function/BiFunction;") ∈ WA := wa_q tbl_4 41 rfl rfl
theorem q_t4_56 : (Cond.instanceMethod ⟨"java/lang/String", "length", "()I"⟩) ∈ WA := wa_q tbl_4 56 rfl rfl
theorem q_t4_57 : (Cond.selects "java/lang/String" ⟨"java/lang/String", "length", "()I"⟩ ⟨"java/lang/String", "length", "()I"⟩) ∈ WA := wa_q tbl_4 57 rfl rfl
theorem q_t4_58 : (Cond.code ⟨"java/lang/String", "length", "()I"⟩ prog_21_method_54_code 1 (some .int)) ∈ WA := wa_q tbl_4 58 rfl rfl
theorem q_t4_59 : (Cond.methodLink "java/lang/String" 335 ⟨"java/lang/String", "coder", "()B"⟩) ∈ WA := wa_q tbl_4 59 rfl rfl
theorem q_t4_60 : (Cond.instanceMethod ⟨"java/lang/String", "coder", "()B"⟩) ∈ WA := wa_q tbl_4 60 rfl rfl
theorem q_t4_61 : (Cond.selects "java/lang/String" ⟨"java/lang/String", "coder", "()B"⟩ ⟨"java/lang/String", "coder", "()B"⟩) ∈ WA := wa_q tbl_4 61 rfl rfl
theorem q_t4_62 : (Cond.code ⟨"java/lang/String", "coder", "()B"⟩ prog_21_method_152_code 1 (some .byte)) ∈ WA := wa_q tbl_4 62 rfl rfl
theorem q_t4_63 : (Cond.fieldLink "java/lang/String" 38 "java/lang/String" "COMPACT_STRINGS" "Z") ∈ WA := wa_q tbl_4 63 rfl rfl
theorem q_t5_6 : (Cond.fieldLink "java/lang/String" 9 "java/lang/String" "value" "[B") ∈ WA := wa_q tbl_5 6 rfl rfl
theorem q_t5_7 : (Cond.fieldLink "java/lang/String" 15 "java/lang/String" "coder" "B") ∈ WA := wa_q tbl_5 7 rfl rfl
theorem q_t5_71 : (Cond.methodLink "SheetFolder" 107 ⟨"SheetFolder$Part", "goesUp", "(I)Z"⟩) ∈ WA := wa_q tbl_5 71 rfl rfl
theorem q_t5_89 : (Cond.static ⟨"java/lang/String", "checkIndex", "(II)V"⟩) ∈ WA := wa_q tbl_5 89 rfl rfl
theorem q_t5_90 : (Cond.code ⟨"java/lang/String", "checkIndex", "(II)V"⟩ prog_21_method_155_code 2 none) ∈ WA := wa_q tbl_5 90 rfl rfl
theorem q_t5_91 : (Cond.methodLink "java/lang/String" 1059 ⟨"jdk/internal/util/Preconditions", "checkIndex", "(IILjava/util/function/BiFunction;)I"⟩) ∈ WA := wa_q tbl_5 91 rfl rfl
theorem q_t5_92 : (Cond.static ⟨"jdk/internal/util/Preconditions", "checkIndex", "(IILjava/util/function/BiFunction;)I"⟩) ∈ WA := wa_q tbl_5 92 rfl rfl
theorem q_t5_93 : (Cond.code ⟨"jdk/internal/util/Preconditions", "checkIndex", "(IILjava/util/function/BiFunction;)I"⟩ prog_30_method_11_code 3 (some .int)) ∈ WA := wa_q tbl_5 93 rfl rfl
theorem q_t5_103 : (Cond.instanceMethod ⟨"SheetFolder", "load", "(I)I"⟩) ∈ WA := wa_q tbl_5 103 rfl rfl
theorem q_t5_104 : (Cond.selects "SheetFolder" ⟨"SheetFolder", "load", "(I)I"⟩ ⟨"SheetFolder", "load", "(I)I"⟩) ∈ WA := wa_q tbl_5 104 rfl rfl
theorem q_t5_105 : (Cond.code ⟨"SheetFolder", "load", "(I)I"⟩ prog_1_method_4_code 2 (some .int)) ∈ WA := wa_q tbl_5 105 rfl rfl
theorem q_t5_106 : (Cond.classLink "SheetFolder" 66 "java/lang/IllegalArgumentException") ∈ WA := wa_q tbl_5 106 rfl rfl
theorem q_t5_109 : (Cond.methodLink "SheetFolder" 73 ⟨"SheetFolder$TextReader", "readText", "([BILSheetFolder$Part;)Z"⟩) ∈ WA := wa_q tbl_5 109 rfl rfl
theorem q_t5_110 : (Cond.instanceMethod ⟨"SheetFolder$TextReader", "readText", "([BILSheetFolder$Part;)Z"⟩) ∈ WA := wa_q tbl_5 110 rfl rfl
theorem q_t5_111 : (Cond.selects "SheetFolder$TextReader" ⟨"SheetFolder$TextReader", "readText", "([BILSheetFolder$Part;)Z"⟩ ⟨"SheetFolder$TextReader", "readText", "([BILSheetFolder$Part;)Z"⟩) ∈ WA := wa_q tbl_5 111 rfl rfl
theorem q_t5_112 : (Cond.code ⟨"SheetFolder$TextReader", "readText", "([BILSheetFolder$Part;)Z"⟩ prog_6_method_2_code 5 (some .boolean)) ∈ WA := wa_q tbl_5 112 rfl rfl
theorem q_t5_113 : (Cond.methodLink "SheetFolder$TextReader" 43 ⟨"SheetFolder$Part", "clear", "()V"⟩) ∈ WA := wa_q tbl_5 113 rfl rfl
theorem q_t5_114 : (Cond.methodLink "SheetFolder$TextReader" 48 ⟨"SheetFolder$TextReader", "nextToken", "()V"⟩) ∈ WA := wa_q tbl_5 114 rfl rfl
theorem q_t5_116 : (Cond.instanceMethod ⟨"SheetFolder$TextReader", "nextToken", "()V"⟩) ∈ WA := wa_q tbl_5 116 rfl rfl
theorem q_t5_117 : (Cond.code ⟨"SheetFolder$TextReader", "nextToken", "()V"⟩ prog_6_method_8_code 1 none) ∈ WA := wa_q tbl_5 117 rfl rfl
theorem q_t5_118 : (Cond.methodLink "SheetFolder$TextReader" 140 ⟨"SheetFolder$TextReader", "isSpace", "(B)Z"⟩) ∈ WA := wa_q tbl_5 118 rfl rfl
theorem q_t5_119 : (Cond.static ⟨"SheetFolder$TextReader", "isSpace", "(B)Z"⟩) ∈ WA := wa_q tbl_5 119 rfl rfl
theorem q_t5_120 : (Cond.code ⟨"SheetFolder$TextReader", "isSpace", "(B)Z"⟩ prog_6_method_11_code 1 (some .boolean)) ∈ WA := wa_q tbl_5 120 rfl rfl
theorem q_t5_121 : (Cond.methodLink "SheetFolder$TextReader" 144 ⟨"SheetFolder$TextReader", "isLetter", "(B)Z"⟩) ∈ WA := wa_q tbl_5 121 rfl rfl
theorem q_t5_122 : (Cond.static ⟨"SheetFolder$TextReader", "isLetter", "(B)Z"⟩) ∈ WA := wa_q tbl_5 122 rfl rfl
theorem q_t5_123 : (Cond.code ⟨"SheetFolder$TextReader", "isLetter", "(B)Z"⟩ prog_6_method_12_code 1 (some .boolean)) ∈ WA := wa_q tbl_5 123 rfl rfl
theorem q_t5_124 : (Cond.methodLink "SheetFolder$TextReader" 147 ⟨"SheetFolder$TextReader", "takeWord", "()V"⟩) ∈ WA := wa_q tbl_5 124 rfl rfl
theorem q_t5_126 : (Cond.instanceMethod ⟨"SheetFolder$TextReader", "takeWord", "()V"⟩) ∈ WA := wa_q tbl_5 126 rfl rfl
theorem q_t5_127 : (Cond.code ⟨"SheetFolder$TextReader", "takeWord", "()V"⟩ prog_6_method_9_code 1 none) ∈ WA := wa_q tbl_5 127 rfl rfl
theorem q_t5_128 : (Cond.methodLink "SheetFolder$TextReader" 150 ⟨"SheetFolder$TextReader", "isDigit", "(B)Z"⟩) ∈ WA := wa_q tbl_5 128 rfl rfl
theorem q_t5_129 : (Cond.static ⟨"SheetFolder$TextReader", "isDigit", "(B)Z"⟩) ∈ WA := wa_q tbl_5 129 rfl rfl
theorem q_t5_130 : (Cond.code ⟨"SheetFolder$TextReader", "isDigit", "(B)Z"⟩ prog_6_method_13_code 1 (some .boolean)) ∈ WA := wa_q tbl_5 130 rfl rfl
theorem q_t5_131 : (Cond.methodLink "SheetFolder$TextReader" 153 ⟨"SheetFolder$TextReader", "takeNumber", "()V"⟩) ∈ WA := wa_q tbl_5 131 rfl rfl
theorem q_t5_133 : (Cond.instanceMethod ⟨"SheetFolder$TextReader", "takeNumber", "()V"⟩) ∈ WA := wa_q tbl_5 133 rfl rfl
theorem q_t5_134 : (Cond.code ⟨"SheetFolder$TextReader", "takeNumber", "()V"⟩ prog_6_method_10_code 1 none) ∈ WA := wa_q tbl_5 134 rfl rfl
theorem q_t5_135 : (Cond.methodLink "SheetFolder$TextReader" 51 ⟨"SheetFolder$TextReader", "readStatement", "(LSheetFolder$Part;)V"⟩) ∈ WA := wa_q tbl_5 135 rfl rfl
theorem q_t5_137 : (Cond.instanceMethod ⟨"SheetFolder$TextReader", "readStatement", "(LSheetFolder$Part;)V"⟩) ∈ WA := wa_q tbl_5 137 rfl rfl
theorem q_t5_138 : (Cond.code ⟨"SheetFolder$TextReader", "readStatement", "(LSheetFolder$Part;)V"⟩ prog_6_method_3_code 5 none) ∈ WA := wa_q tbl_5 138 rfl rfl
theorem q_t5_139 : (Cond.methodLink "SheetFolder$TextReader" 55 ⟨"SheetFolder$Word", "find", "([BII)LSheetFolder$Word;"⟩) ∈ WA := wa_q tbl_5 139 rfl rfl
theorem q_t5_140 : (Cond.static ⟨"SheetFolder$Word", "find", "([BII)LSheetFolder$Word;"⟩) ∈ WA := wa_q tbl_5 140 rfl rfl
theorem q_t5_141 : (Cond.code ⟨"SheetFolder$Word", "find", "([BII)LSheetFolder$Word;"⟩ prog_7_method_4_code 4 (Option.some (.object "SheetFolder$Word"))) ∈ WA := wa_q tbl_5 141 rfl rfl
theorem q_t5_142 : (Cond.fieldLink "SheetFolder$Word" 75 "SheetFolder$Word" "ALL" "[LSheetFolder$Word;") ∈ WA := wa_q tbl_5 142 rfl rfl
theorem q_t5_144 : (Cond.methodLink "SheetFolder$Word" 78 ⟨"SheetFolder$Word", "isSpelled", "([BII)Z"⟩) ∈ WA := wa_q tbl_5 144 rfl rfl
theorem q_t5_146 : (Cond.instanceMethod ⟨"SheetFolder$Word", "isSpelled", "([BII)Z"⟩) ∈ WA := wa_q tbl_5 146 rfl rfl
theorem q_t5_148 : (Cond.code ⟨"SheetFolder$Word", "isSpelled", "([BII)Z"⟩ prog_7_method_5_code 5 (some .boolean)) ∈ WA := wa_q tbl_5 148 rfl rfl
theorem q_t5_149 : (Cond.methodLink "SheetFolder$Word" 82 ⟨"java/lang/String", "length", "()I"⟩) ∈ WA := wa_q tbl_5 149 rfl rfl
theorem q_t5_150 : (Cond.methodLink "SheetFolder$Word" 88 ⟨"java/lang/String", "charAt", "(I)C"⟩) ∈ WA := wa_q tbl_5 150 rfl rfl
theorem q_t5_151 : (Cond.instanceMethod ⟨"java/lang/String", "charAt", "(I)C"⟩) ∈ WA := wa_q tbl_5 151 rfl rfl
theorem q_t5_152 : (Cond.selects "java/lang/String" ⟨"java/lang/String", "charAt", "(I)C"⟩ ⟨"java/lang/String", "charAt", "(I)C"⟩) ∈ WA := wa_q tbl_5 152 rfl rfl
theorem q_t5_153 : (Cond.code ⟨"java/lang/String", "charAt", "(I)C"⟩ prog_21_method_56_code 2 (some .char)) ∈ WA := wa_q tbl_5 153 rfl rfl
theorem q_t5_154 : (Cond.methodLink "java/lang/String" 492 ⟨"java/lang/String", "isLatin1", "()Z"⟩) ∈ WA := wa_q tbl_5 154 rfl rfl
theorem q_t5_155 : (Cond.instanceMethod ⟨"java/lang/String", "isLatin1", "()Z"⟩) ∈ WA := wa_q tbl_5 155 rfl rfl
theorem q_t5_156 : (Cond.selects "java/lang/String" ⟨"java/lang/String", "isLatin1", "()Z"⟩ ⟨"java/lang/String", "isLatin1", "()Z"⟩) ∈ WA := wa_q tbl_5 156 rfl rfl
theorem q_t5_157 : (Cond.code ⟨"java/lang/String", "isLatin1", "()Z"⟩ prog_21_method_154_code 1 (some .boolean)) ∈ WA := wa_q tbl_5 157 rfl rfl
theorem q_t5_158 : (Cond.methodLink "java/lang/String" 495 ⟨"java/lang/StringLatin1", "charAt", "([BI)C"⟩) ∈ WA := wa_q tbl_5 158 rfl rfl
theorem q_t5_159 : (Cond.static ⟨"java/lang/StringLatin1", "charAt", "([BI)C"⟩) ∈ WA := wa_q tbl_5 159 rfl rfl
theorem q_t5_160 : (Cond.code ⟨"java/lang/StringLatin1", "charAt", "([BI)C"⟩ prog_24_method_2_code 2 (some .char)) ∈ WA := wa_q tbl_5 160 rfl rfl
theorem q_t5_161 : (Cond.methodLink "java/lang/StringLatin1" 9 ⟨"java/lang/String", "checkIndex", "(II)V"⟩) ∈ WA := wa_q tbl_5 161 rfl rfl
theorem q_t5_165 : (Cond.methodLink "SheetFolder$TextReader" 59 ⟨"SheetFolder$TextReader", "errorIfNot", "(II)I"⟩) ∈ WA := wa_q tbl_5 165 rfl rfl
theorem q_t5_167 : (Cond.instanceMethod ⟨"SheetFolder$TextReader", "errorIfNot", "(II)I"⟩) ∈ WA := wa_q tbl_5 167 rfl rfl
theorem q_t5_168 : (Cond.code ⟨"SheetFolder$TextReader", "errorIfNot", "(II)I"⟩ prog_6_method_4_code 3 (some .int)) ∈ WA := wa_q tbl_5 168 rfl rfl
theorem q_t5_169 : (Cond.methodLink "SheetFolder$TextReader" 63 ⟨"SheetFolder$TextReader", "errorOfWord", "(LSheetFolder$Word;LSheetFolder$Part;)I"⟩) ∈ WA := wa_q tbl_5 169 rfl rfl
theorem q_t5_170 : (Cond.static ⟨"SheetFolder$TextReader", "errorOfWord", "(LSheetFolder$Word;LSheetFolder$Part;)I"⟩) ∈ WA := wa_q tbl_5 170 rfl rfl
theorem q_t5_171 : (Cond.code ⟨"SheetFolder$TextReader", "errorOfWord", "(LSheetFolder$Word;LSheetFolder$Part;)I"⟩ prog_6_method_5_code 6 (some .int)) ∈ WA := wa_q tbl_5 171 rfl rfl
theorem q_t5_172 : (Cond.fieldLink "SheetFolder$TextReader" 79 "SheetFolder$Word" "LEG" "LSheetFolder$Word;") ∈ WA := wa_q tbl_5 172 rfl rfl
theorem q_t5_174 : (Cond.methodLink "SheetFolder$TextReader" 86 ⟨"SheetFolder$Word", "isBend", "()Z"⟩) ∈ WA := wa_q tbl_5 174 rfl rfl
theorem q_t5_175 : (Cond.instanceMethod ⟨"SheetFolder$Word", "isBend", "()Z"⟩) ∈ WA := wa_q tbl_5 175 rfl rfl
theorem q_t5_176 : (Cond.selects "SheetFolder$Word" ⟨"SheetFolder$Word", "isBend", "()Z"⟩ ⟨"SheetFolder$Word", "isBend", "()Z"⟩) ∈ WA := wa_q tbl_5 176 rfl rfl
theorem q_t5_177 : (Cond.code ⟨"SheetFolder$Word", "isBend", "()Z"⟩ prog_7_method_11_code 1 (some .boolean)) ∈ WA := wa_q tbl_5 177 rfl rfl
theorem q_t5_178 : (Cond.fieldLink "SheetFolder$Word" 12 "SheetFolder$Word" "UP" "LSheetFolder$Word;") ∈ WA := wa_q tbl_5 178 rfl rfl
theorem q_t5_180 : (Cond.fieldLink "SheetFolder$Word" 15 "SheetFolder$Word" "DOWN" "LSheetFolder$Word;") ∈ WA := wa_q tbl_5 180 rfl rfl
theorem q_t5_182 : (Cond.methodLink "SheetFolder$TextReader" 90 ⟨"SheetFolder$Part", "bendCount", "()I"⟩) ∈ WA := wa_q tbl_5 182 rfl rfl
theorem q_t5_183 : (Cond.fieldLink "SheetFolder$TextReader" 93 "SheetFolder$Word" "BACK" "LSheetFolder$Word;") ∈ WA := wa_q tbl_5 183 rfl rfl
theorem q_t5_185 : (Cond.methodLink "SheetFolder$TextReader" 67 ⟨"SheetFolder$Word", "numberCount", "()I"⟩) ∈ WA := wa_q tbl_5 185 rfl rfl
theorem q_t5_186 : (Cond.instanceMethod ⟨"SheetFolder$Word", "numberCount", "()I"⟩) ∈ WA := wa_q tbl_5 186 rfl rfl
theorem q_t5_187 : (Cond.selects "SheetFolder$Word" ⟨"SheetFolder$Word", "numberCount", "()I"⟩ ⟨"SheetFolder$Word", "numberCount", "()I"⟩) ∈ WA := wa_q tbl_5 187 rfl rfl
theorem q_t5_188 : (Cond.code ⟨"SheetFolder$Word", "numberCount", "()I"⟩ prog_7_method_8_code 1 (some .int)) ∈ WA := wa_q tbl_5 188 rfl rfl
theorem q_t5_189 : (Cond.methodLink "SheetFolder$TextReader" 71 ⟨"SheetFolder$TextReader", "errorOfNumber", "(LSheetFolder$Word;ILSheetFolder$Part;)I"⟩) ∈ WA := wa_q tbl_5 189 rfl rfl
theorem q_t5_191 : (Cond.instanceMethod ⟨"SheetFolder$TextReader", "errorOfNumber", "(LSheetFolder$Word;ILSheetFolder$Part;)I"⟩) ∈ WA := wa_q tbl_5 191 rfl rfl
theorem q_t5_192 : (Cond.code ⟨"SheetFolder$TextReader", "errorOfNumber", "(LSheetFolder$Word;ILSheetFolder$Part;)I"⟩ prog_6_method_6_code 6 (some .int)) ∈ WA := wa_q tbl_5 192 rfl rfl
theorem q_t5_193 : (Cond.methodLink "SheetFolder$TextReader" 99 ⟨"SheetFolder$Word", "allows", "(II)Z"⟩) ∈ WA := wa_q tbl_5 193 rfl rfl
theorem q_t5_194 : (Cond.instanceMethod ⟨"SheetFolder$Word", "allows", "(II)Z"⟩) ∈ WA := wa_q tbl_5 194 rfl rfl
theorem q_t5_195 : (Cond.selects "SheetFolder$Word" ⟨"SheetFolder$Word", "allows", "(II)Z"⟩ ⟨"SheetFolder$Word", "allows", "(II)Z"⟩) ∈ WA := wa_q tbl_5 195 rfl rfl
theorem q_t5_196 : (Cond.code ⟨"SheetFolder$Word", "allows", "(II)Z"⟩ prog_7_method_9_code 3 (some .boolean)) ∈ WA := wa_q tbl_5 196 rfl rfl
theorem q_t5_197 : (Cond.methodLink "SheetFolder$TextReader" 103 ⟨"SheetFolder$Word", "allowsBehind", "(III)Z"⟩) ∈ WA := wa_q tbl_5 197 rfl rfl
theorem q_t5_198 : (Cond.instanceMethod ⟨"SheetFolder$Word", "allowsBehind", "(III)Z"⟩) ∈ WA := wa_q tbl_5 198 rfl rfl
theorem q_t5_199 : (Cond.selects "SheetFolder$Word" ⟨"SheetFolder$Word", "allowsBehind", "(III)Z"⟩ ⟨"SheetFolder$Word", "allowsBehind", "(III)Z"⟩) ∈ WA := wa_q tbl_5 199 rfl rfl
theorem q_t5_200 : (Cond.code ⟨"SheetFolder$Word", "allowsBehind", "(III)Z"⟩ prog_7_method_10_code 4 (some .boolean)) ∈ WA := wa_q tbl_5 200 rfl rfl
theorem q_t5_201 : (Cond.methodLink "SheetFolder$Word" 96 ⟨"SheetFolder$Word", "allows", "(II)Z"⟩) ∈ WA := wa_q tbl_5 201 rfl rfl
theorem q_t5_202 : (Cond.fieldLink "SheetFolder$Word" 30 "SheetFolder$Word" "GAUGE" "LSheetFolder$Word;") ∈ WA := wa_q tbl_5 202 rfl rfl
theorem q_t5_204 : (Cond.methodLink "SheetFolder$TextReader" 107 ⟨"SheetFolder$Part", "lastBackRatio", "()I"⟩) ∈ WA := wa_q tbl_5 204 rfl rfl
theorem q_t5_205 : (Cond.instanceMethod ⟨"SheetFolder$Part", "lastBackRatio", "()I"⟩) ∈ WA := wa_q tbl_5 205 rfl rfl
theorem q_t5_206 : (Cond.selects "SheetFolder$Part" ⟨"SheetFolder$Part", "lastBackRatio", "()I"⟩ ⟨"SheetFolder$Part", "lastBackRatio", "()I"⟩) ∈ WA := wa_q tbl_5 206 rfl rfl
theorem q_t5_207 : (Cond.code ⟨"SheetFolder$Part", "lastBackRatio", "()I"⟩ prog_3_method_8_code 1 (some .int)) ∈ WA := wa_q tbl_5 207 rfl rfl
theorem q_t5_208 : (Cond.methodLink "SheetFolder$TextReader" 75 ⟨"SheetFolder$TextReader", "accept", "(LSheetFolder$Word;LSheetFolder$Part;)V"⟩) ∈ WA := wa_q tbl_5 208 rfl rfl
theorem q_t5_210 : (Cond.instanceMethod ⟨"SheetFolder$TextReader", "accept", "(LSheetFolder$Word;LSheetFolder$Part;)V"⟩) ∈ WA := wa_q tbl_5 210 rfl rfl
theorem q_t5_211 : (Cond.code ⟨"SheetFolder$TextReader", "accept", "(LSheetFolder$Word;LSheetFolder$Part;)V"⟩ prog_6_method_7_code 4 none) ∈ WA := wa_q tbl_5 211 rfl rfl
theorem q_t5_212 : (Cond.methodLink "SheetFolder$TextReader" 110 ⟨"SheetFolder$Word", "toolNumber", "()I"⟩) ∈ WA := wa_q tbl_5 212 rfl rfl
theorem q_t5_213 : (Cond.instanceMethod ⟨"SheetFolder$Word", "toolNumber", "()I"⟩) ∈ WA := wa_q tbl_5 213 rfl rfl
theorem q_t5_214 : (Cond.selects "SheetFolder$Word" ⟨"SheetFolder$Word", "toolNumber", "()I"⟩ ⟨"SheetFolder$Word", "toolNumber", "()I"⟩) ∈ WA := wa_q tbl_5 214 rfl rfl
theorem q_t5_215 : (Cond.code ⟨"SheetFolder$Word", "toolNumber", "()I"⟩ prog_7_method_7_code 2 (some .int)) ∈ WA := wa_q tbl_5 215 rfl rfl
theorem q_t5_216 : (Cond.methodLink "SheetFolder$Word" 92 ⟨"SheetFolder$Word", "ofTool", "(I)LSheetFolder$Word;"⟩) ∈ WA := wa_q tbl_5 216 rfl rfl
theorem q_t5_217 : (Cond.static ⟨"SheetFolder$Word", "ofTool", "(I)LSheetFolder$Word;"⟩) ∈ WA := wa_q tbl_5 217 rfl rfl
theorem q_t5_218 : (Cond.code ⟨"SheetFolder$Word", "ofTool", "(I)LSheetFolder$Word;"⟩ prog_7_method_6_code 1 (Option.some (.object "SheetFolder$Word"))) ∈ WA := wa_q tbl_5 218 rfl rfl
theorem q_t5_219 : (Cond.fieldLink "SheetFolder$Word" 21 "SheetFolder$Word" "BEAM" "LSheetFolder$Word;") ∈ WA := wa_q tbl_5 219 rfl rfl
theorem q_t5_221 : (Cond.fieldLink "SheetFolder$Word" 24 "SheetFolder$Word" "TABLE" "LSheetFolder$Word;") ∈ WA := wa_q tbl_5 221 rfl rfl
theorem q_t5_223 : (Cond.fieldLink "SheetFolder$Word" 27 "SheetFolder$Word" "WING" "LSheetFolder$Word;") ∈ WA := wa_q tbl_5 223 rfl rfl
theorem q_t5_225 : (Cond.fieldLink "SheetFolder$Word" 33 "SheetFolder$Word" "FLANGE" "LSheetFolder$Word;") ∈ WA := wa_q tbl_5 225 rfl rfl
theorem q_t5_227 : (Cond.methodLink "SheetFolder$TextReader" 113 ⟨"SheetFolder$Part", "putTool", "(III)V"⟩) ∈ WA := wa_q tbl_5 227 rfl rfl
theorem q_t5_228 : (Cond.fieldLink "SheetFolder$TextReader" 117 "SheetFolder$Word" "SHEET" "LSheetFolder$Word;") ∈ WA := wa_q tbl_5 228 rfl rfl
theorem q_t5_230 : (Cond.methodLink "SheetFolder$TextReader" 120 ⟨"SheetFolder$Part", "putSheet", "(III)V"⟩) ∈ WA := wa_q tbl_5 230 rfl rfl
theorem q_t5_231 : (Cond.fieldLink "SheetFolder$TextReader" 123 "SheetFolder$Word" "COST" "LSheetFolder$Word;") ∈ WA := wa_q tbl_5 231 rfl rfl
theorem q_t5_233 : (Cond.methodLink "SheetFolder$TextReader" 126 ⟨"SheetFolder$Part", "putCosts", "(III)V"⟩) ∈ WA := wa_q tbl_5 233 rfl rfl
theorem q_t5_234 : (Cond.methodLink "SheetFolder$TextReader" 129 ⟨"SheetFolder$Part", "addBack", "(II)V"⟩) ∈ WA := wa_q tbl_5 234 rfl rfl
theorem q_t5_235 : (Cond.instanceMethod ⟨"SheetFolder$Part", "addBack", "(II)V"⟩) ∈ WA := wa_q tbl_5 235 rfl rfl
theorem q_t5_236 : (Cond.selects "SheetFolder$Part" ⟨"SheetFolder$Part", "addBack", "(II)V"⟩ ⟨"SheetFolder$Part", "addBack", "(II)V"⟩) ∈ WA := wa_q tbl_5 236 rfl rfl
theorem q_t5_237 : (Cond.code ⟨"SheetFolder$Part", "addBack", "(II)V"⟩ prog_3_method_7_code 3 none) ∈ WA := wa_q tbl_5 237 rfl rfl
theorem q_t5_238 : (Cond.fieldLink "SheetFolder$TextReader" 133 "SheetFolder$Word" "UP" "LSheetFolder$Word;") ∈ WA := wa_q tbl_5 238 rfl rfl
theorem q_t5_239 : (Cond.methodLink "SheetFolder$TextReader" 136 ⟨"SheetFolder$Part", "addLeg", "(IZ)V"⟩) ∈ WA := wa_q tbl_5 239 rfl rfl
theorem q_t6_0 : (Cond.instanceMethod ⟨"SheetFolder$Part", "addLeg", "(IZ)V"⟩) ∈ WA := wa_q tbl_6 0 rfl rfl
theorem q_t6_1 : (Cond.selects "SheetFolder$Part" ⟨"SheetFolder$Part", "addLeg", "(IZ)V"⟩ ⟨"SheetFolder$Part", "addLeg", "(IZ)V"⟩) ∈ WA := wa_q tbl_6 1 rfl rfl
theorem q_t6_2 : (Cond.code ⟨"SheetFolder$Part", "addLeg", "(IZ)V"⟩ prog_3_method_9_code 3 none) ∈ WA := wa_q tbl_6 2 rfl rfl
theorem q_t6_3 : (Cond.methodLink "SheetFolder" 81 ⟨"SheetFolder$History", "forgetAll", "()V"⟩) ∈ WA := wa_q tbl_6 3 rfl rfl
theorem q_t6_4 : (Cond.instanceMethod ⟨"SheetFolder$History", "forgetAll", "()V"⟩) ∈ WA := wa_q tbl_6 4 rfl rfl
theorem q_t6_5 : (Cond.selects "SheetFolder$History" ⟨"SheetFolder$History", "forgetAll", "()V"⟩ ⟨"SheetFolder$History", "forgetAll", "()V"⟩) ∈ WA := wa_q tbl_6 5 rfl rfl
theorem q_t6_6 : (Cond.code ⟨"SheetFolder$History", "forgetAll", "()V"⟩ prog_2_method_2_code 1 none) ∈ WA := wa_q tbl_6 6 rfl rfl
theorem q_t6_12 : (Cond.instanceMethod ⟨"SheetFolder", "leg", "(I)I"⟩) ∈ WA := wa_q tbl_6 12 rfl rfl
theorem q_t6_13 : (Cond.selects "SheetFolder" ⟨"SheetFolder", "leg", "(I)I"⟩ ⟨"SheetFolder", "leg", "(I)I"⟩) ∈ WA := wa_q tbl_6 13 rfl rfl
theorem q_t6_14 : (Cond.code ⟨"SheetFolder", "leg", "(I)I"⟩ prog_1_method_9_code 2 (some .int)) ∈ WA := wa_q tbl_6 14 rfl rfl
theorem q_t6_15 : (Cond.methodLink "SheetFolder" 97 ⟨"SheetFolder", "requireLeg", "(I)V"⟩) ∈ WA := wa_q tbl_6 15 rfl rfl
theorem q_t6_17 : (Cond.instanceMethod ⟨"SheetFolder", "requireLeg", "(I)V"⟩) ∈ WA := wa_q tbl_6 17 rfl rfl
theorem q_t6_18 : (Cond.code ⟨"SheetFolder", "requireLeg", "(I)V"⟩ prog_1_method_65_code 2 none) ∈ WA := wa_q tbl_6 18 rfl rfl
theorem q_t6_19 : (Cond.classLink "SheetFolder" 176 "java/lang/IndexOutOfBoundsException") ∈ WA := wa_q tbl_6 19 rfl rfl
theorem q_t6_36 : (Cond.instanceMethod ⟨"SheetFolder", "isUp", "(I)Z"⟩) ∈ WA := wa_q tbl_6 36 rfl rfl
theorem q_t6_37 : (Cond.selects "SheetFolder" ⟨"SheetFolder", "isUp", "(I)Z"⟩ ⟨"SheetFolder", "isUp", "(I)Z"⟩) ∈ WA := wa_q tbl_6 37 rfl rfl
theorem q_t6_38 : (Cond.code ⟨"SheetFolder", "isUp", "(I)Z"⟩ prog_1_method_10_code 2 (some .boolean)) ∈ WA := wa_q tbl_6 38 rfl rfl
theorem q_t6_39 : (Cond.methodLink "SheetFolder" 104 ⟨"SheetFolder", "requireBend", "(I)V"⟩) ∈ WA := wa_q tbl_6 39 rfl rfl
theorem q_t6_41 : (Cond.instanceMethod ⟨"SheetFolder", "requireBend", "(I)V"⟩) ∈ WA := wa_q tbl_6 41 rfl rfl
theorem q_t6_42 : (Cond.code ⟨"SheetFolder", "requireBend", "(I)V"⟩ prog_1_method_64_code 2 none) ∈ WA := wa_q tbl_6 42 rfl rfl
theorem q_t6_48 : (Cond.instanceMethod ⟨"SheetFolder", "linePlace", "(I)D"⟩) ∈ WA := wa_q tbl_6 48 rfl rfl
theorem q_t6_49 : (Cond.selects "SheetFolder" ⟨"SheetFolder", "linePlace", "(I)D"⟩ ⟨"SheetFolder", "linePlace", "(I)D"⟩) ∈ WA := wa_q tbl_6 49 rfl rfl
theorem q_t6_50 : (Cond.code ⟨"SheetFolder", "linePlace", "(I)D"⟩ prog_1_method_13_code 2 (some .double)) ∈ WA := wa_q tbl_6 50 rfl rfl
theorem q_t6_51 : (Cond.constantDouble "SheetFolder" 119 (4602678819172646912 : UInt64)) ∈ WA := wa_q tbl_6 51 rfl rfl
theorem q_t6_56 : (Cond.instanceMethod ⟨"SheetFolder", "springBackFor", "(D)D"⟩) ∈ WA := wa_q tbl_6 56 rfl rfl
theorem q_t6_57 : (Cond.selects "SheetFolder" ⟨"SheetFolder", "springBackFor", "(D)D"⟩ ⟨"SheetFolder", "springBackFor", "(D)D"⟩) ∈ WA := wa_q tbl_6 57 rfl rfl
theorem q_t6_58 : (Cond.code ⟨"SheetFolder", "springBackFor", "(D)D"⟩ prog_1_method_16_code 4 (some .double)) ∈ WA := wa_q tbl_6 58 rfl rfl
theorem q_t6_59 : (Cond.constantDouble "SheetFolder" 128 (4666722622711529472 : UInt64)) ∈ WA := wa_q tbl_6 59 rfl rfl
theorem q_t6_65 : (Cond.instanceMethod ⟨"SheetFolder", "tool", "(II)I"⟩) ∈ WA := wa_q tbl_6 65 rfl rfl
theorem q_t6_66 : (Cond.selects "SheetFolder" ⟨"SheetFolder", "tool", "(II)I"⟩ ⟨"SheetFolder", "tool", "(II)I"⟩) ∈ WA := wa_q tbl_6 66 rfl rfl
theorem q_t6_67 : (Cond.code ⟨"SheetFolder", "tool", "(II)I"⟩ prog_1_method_18_code 4 (some .int)) ∈ WA := wa_q tbl_6 67 rfl rfl
theorem q_t6_68 : (Cond.methodLink "SheetFolder" 132 ⟨"SheetFolder$Word", "ofTool", "(I)LSheetFolder$Word;"⟩) ∈ WA := wa_q tbl_6 68 rfl rfl
theorem q_t6_69 : (Cond.methodLink "SheetFolder" 138 ⟨"SheetFolder$Word", "numberCount", "()I"⟩) ∈ WA := wa_q tbl_6 69 rfl rfl
theorem q_t6_75 : (Cond.instanceMethod ⟨"SheetFolder", "finishedCorner", "(II)I"⟩) ∈ WA := wa_q tbl_6 75 rfl rfl
theorem q_t6_76 : (Cond.selects "SheetFolder" ⟨"SheetFolder", "finishedCorner", "(II)I"⟩ ⟨"SheetFolder", "finishedCorner", "(II)I"⟩) ∈ WA := wa_q tbl_6 76 rfl rfl
theorem q_t6_77 : (Cond.code ⟨"SheetFolder", "finishedCorner", "(II)I"⟩ prog_1_method_22_code 3 (some .int)) ∈ WA := wa_q tbl_6 77 rfl rfl
theorem q_t6_78 : (Cond.methodLink "SheetFolder" 163 ⟨"SheetFolder", "requireChoice", "(II)V"⟩) ∈ WA := wa_q tbl_6 78 rfl rfl
theorem q_t6_79 : (Cond.static ⟨"SheetFolder", "requireChoice", "(II)V"⟩) ∈ WA := wa_q tbl_6 79 rfl rfl
theorem q_t6_80 : (Cond.code ⟨"SheetFolder", "requireChoice", "(II)V"⟩ prog_1_method_66_code 2 none) ∈ WA := wa_q tbl_6 80 rfl rfl
theorem q_t6_86 : (Cond.instanceMethod ⟨"SheetFolder", "step", "(II)I"⟩) ∈ WA := wa_q tbl_6 86 rfl rfl
theorem q_t6_87 : (Cond.selects "SheetFolder" ⟨"SheetFolder", "step", "(II)I"⟩ ⟨"SheetFolder", "step", "(II)I"⟩) ∈ WA := wa_q tbl_6 87 rfl rfl
theorem q_t6_88 : (Cond.code ⟨"SheetFolder", "step", "(II)I"⟩ prog_1_method_27_code 3 (some .int)) ∈ WA := wa_q tbl_6 88 rfl rfl
theorem q_t6_94 : (Cond.instanceMethod ⟨"SheetFolder", "reason", "(II)I"⟩) ∈ WA := wa_q tbl_6 94 rfl rfl
theorem q_t6_95 : (Cond.selects "SheetFolder" ⟨"SheetFolder", "reason", "(II)I"⟩ ⟨"SheetFolder", "reason", "(II)I"⟩) ∈ WA := wa_q tbl_6 95 rfl rfl
theorem q_t6_96 : (Cond.code ⟨"SheetFolder", "reason", "(II)I"⟩ prog_1_method_29_code 3 (some .int)) ∈ WA := wa_q tbl_6 96 rfl rfl
theorem q_t6_97 : (Cond.methodLink "SheetFolder" 193 ⟨"SheetFolder", "requireStep", "(II)V"⟩) ∈ WA := wa_q tbl_6 97 rfl rfl
theorem q_t6_99 : (Cond.instanceMethod ⟨"SheetFolder", "requireStep", "(II)V"⟩) ∈ WA := wa_q tbl_6 99 rfl rfl
theorem q_t6_100 : (Cond.code ⟨"SheetFolder", "requireStep", "(II)V"⟩ prog_1_method_67_code 3 none) ∈ WA := wa_q tbl_6 100 rfl rfl
theorem q_t6_101 : (Cond.methodLink "SheetFolder" 196 ⟨"SheetFolder", "reasonNow", "(I)I"⟩) ∈ WA := wa_q tbl_6 101 rfl rfl
theorem q_t6_103 : (Cond.instanceMethod ⟨"SheetFolder", "reasonNow", "(I)I"⟩) ∈ WA := wa_q tbl_6 103 rfl rfl
theorem q_t6_104 : (Cond.code ⟨"SheetFolder", "reasonNow", "(I)I"⟩ prog_1_method_38_code 2 (some .int)) ∈ WA := wa_q tbl_6 104 rfl rfl
theorem q_t6_105 : (Cond.methodLink "SheetFolder" 222 ⟨"SheetFolder$Places", "reasonFor", "(LSheetFolder$Part;II)I"⟩) ∈ WA := wa_q tbl_6 105 rfl rfl
theorem q_t6_110 : (Cond.instanceMethod ⟨"SheetFolder", "gauge", "(II)I"⟩) ∈ WA := wa_q tbl_6 110 rfl rfl
theorem q_t6_111 : (Cond.selects "SheetFolder" ⟨"SheetFolder", "gauge", "(II)I"⟩ ⟨"SheetFolder", "gauge", "(II)I"⟩) ∈ WA := wa_q tbl_6 111 rfl rfl
theorem q_t6_112 : (Cond.code ⟨"SheetFolder", "gauge", "(II)I"⟩ prog_1_method_30_code 3 (some .int)) ∈ WA := wa_q tbl_6 112 rfl rfl
theorem q_t6_113 : (Cond.methodLink "SheetFolder" 199 ⟨"SheetFolder", "gaugeNow", "(I)I"⟩) ∈ WA := wa_q tbl_6 113 rfl rfl
theorem q_t6_115 : (Cond.instanceMethod ⟨"SheetFolder", "gaugeNow", "(I)I"⟩) ∈ WA := wa_q tbl_6 115 rfl rfl
theorem q_t6_116 : (Cond.code ⟨"SheetFolder", "gaugeNow", "(I)I"⟩ prog_1_method_39_code 2 (some .int)) ∈ WA := wa_q tbl_6 116 rfl rfl
theorem q_t6_117 : (Cond.methodLink "SheetFolder" 202 ⟨"SheetFolder$Places", "layStep", "(LSheetFolder$Part;II)V"⟩) ∈ WA := wa_q tbl_6 117 rfl rfl
theorem q_t6_118 : (Cond.methodLink "SheetFolder" 226 ⟨"SheetFolder$Places", "reachToBack", "()I"⟩) ∈ WA := wa_q tbl_6 118 rfl rfl
theorem q_t6_123 : (Cond.instanceMethod ⟨"SheetFolder", "corner", "(IIII)I"⟩) ∈ WA := wa_q tbl_6 123 rfl rfl
theorem q_t6_124 : (Cond.selects "SheetFolder" ⟨"SheetFolder", "corner", "(IIII)I"⟩ ⟨"SheetFolder", "corner", "(IIII)I"⟩) ∈ WA := wa_q tbl_6 124 rfl rfl
theorem q_t6_125 : (Cond.code ⟨"SheetFolder", "corner", "(IIII)I"⟩ prog_1_method_31_code 5 (some .int)) ∈ WA := wa_q tbl_6 125 rfl rfl
theorem q_t6_130 : (Cond.instanceMethod ⟨"SheetFolder", "top", "(II)I"⟩) ∈ WA := wa_q tbl_6 130 rfl rfl
theorem q_t6_131 : (Cond.selects "SheetFolder" ⟨"SheetFolder", "top", "(II)I"⟩ ⟨"SheetFolder", "top", "(II)I"⟩) ∈ WA := wa_q tbl_6 131 rfl rfl
theorem q_t6_132 : (Cond.code ⟨"SheetFolder", "top", "(II)I"⟩ prog_1_method_32_code 3 (some .int)) ∈ WA := wa_q tbl_6 132 rfl rfl
theorem q_t6_133 : (Cond.methodLink "SheetFolder" 206 ⟨"SheetFolder$Places", "topOfFreeSide", "()I"⟩) ∈ WA := wa_q tbl_6 133 rfl rfl
theorem q_t6_134 : (Cond.instanceMethod ⟨"SheetFolder$Places", "topOfFreeSide", "()I"⟩) ∈ WA := wa_q tbl_6 134 rfl rfl
theorem q_t6_135 : (Cond.selects "SheetFolder$Places" ⟨"SheetFolder$Places", "topOfFreeSide", "()I"⟩ ⟨"SheetFolder$Places", "topOfFreeSide", "()I"⟩) ∈ WA := wa_q tbl_6 135 rfl rfl
theorem q_t6_136 : (Cond.code ⟨"SheetFolder$Places", "topOfFreeSide", "()I"⟩ prog_4_method_7_code 3 (some .int)) ∈ WA := wa_q tbl_6 136 rfl rfl
theorem q_t6_141 : (Cond.instanceMethod ⟨"SheetFolder", "hitting", "(II)I"⟩) ∈ WA := wa_q tbl_6 141 rfl rfl
theorem q_t6_142 : (Cond.selects "SheetFolder" ⟨"SheetFolder", "hitting", "(II)I"⟩ ⟨"SheetFolder", "hitting", "(II)I"⟩) ∈ WA := wa_q tbl_6 142 rfl rfl
theorem q_t6_143 : (Cond.code ⟨"SheetFolder", "hitting", "(II)I"⟩ prog_1_method_33_code 3 (some .int)) ∈ WA := wa_q tbl_6 143 rfl rfl
theorem q_t6_144 : (Cond.methodLink "SheetFolder" 209 ⟨"SheetFolder$Places", "legsHitting", "(LSheetFolder$Part;)I"⟩) ∈ WA := wa_q tbl_6 144 rfl rfl
theorem q_t6_149 : (Cond.instanceMethod ⟨"SheetFolder", "refused", "(I)I"⟩) ∈ WA := wa_q tbl_6 149 rfl rfl
theorem q_t6_150 : (Cond.selects "SheetFolder" ⟨"SheetFolder", "refused", "(I)I"⟩ ⟨"SheetFolder", "refused", "(I)I"⟩) ∈ WA := wa_q tbl_6 150 rfl rfl
theorem q_t6_151 : (Cond.code ⟨"SheetFolder", "refused", "(I)I"⟩ prog_1_method_34_code 4 (some .int)) ∈ WA := wa_q tbl_6 151 rfl rfl
theorem q_t6_157 : (Cond.instanceMethod ⟨"SheetFolder", "costOf", "(II)I"⟩) ∈ WA := wa_q tbl_6 157 rfl rfl
theorem q_t6_158 : (Cond.selects "SheetFolder" ⟨"SheetFolder", "costOf", "(II)I"⟩ ⟨"SheetFolder", "costOf", "(II)I"⟩) ∈ WA := wa_q tbl_6 158 rfl rfl
theorem q_t6_159 : (Cond.code ⟨"SheetFolder", "costOf", "(II)I"⟩ prog_1_method_37_code 3 (some .int)) ∈ WA := wa_q tbl_6 159 rfl rfl
theorem q_t6_160 : (Cond.methodLink "SheetFolder" 219 ⟨"SheetFolder", "costNow", "(I)I"⟩) ∈ WA := wa_q tbl_6 160 rfl rfl
theorem q_t6_162 : (Cond.instanceMethod ⟨"SheetFolder", "costNow", "(I)I"⟩) ∈ WA := wa_q tbl_6 162 rfl rfl
theorem q_t6_163 : (Cond.code ⟨"SheetFolder", "costNow", "(I)I"⟩ prog_1_method_40_code 2 (some .int)) ∈ WA := wa_q tbl_6 163 rfl rfl
theorem q_t6_164 : (Cond.methodLink "SheetFolder" 229 ⟨"SheetFolder$Part", "lastCode", "()I"⟩) ∈ WA := wa_q tbl_6 164 rfl rfl
theorem q_t6_165 : (Cond.methodLink "SheetFolder" 232 ⟨"SheetFolder$Part", "lastGauge", "()I"⟩) ∈ WA := wa_q tbl_6 165 rfl rfl
theorem q_t6_166 : (Cond.methodLink "SheetFolder" 235 ⟨"SheetFolder$Part", "priceBetween", "(IIII)I"⟩) ∈ WA := wa_q tbl_6 166 rfl rfl
theorem q_t6_171 : (Cond.instanceMethod ⟨"SheetFolder", "planned", "(I)I"⟩) ∈ WA := wa_q tbl_6 171 rfl rfl
theorem q_t6_172 : (Cond.selects "SheetFolder" ⟨"SheetFolder", "planned", "(I)I"⟩ ⟨"SheetFolder", "planned", "(I)I"⟩) ∈ WA := wa_q tbl_6 172 rfl rfl
theorem q_t6_173 : (Cond.code ⟨"SheetFolder", "planned", "(I)I"⟩ prog_1_method_44_code 2 (some .int)) ∈ WA := wa_q tbl_6 173 rfl rfl
theorem q_t6_179 : (Cond.instanceMethod ⟨"SheetFolder", "ordersWith", "(II)J"⟩) ∈ WA := wa_q tbl_6 179 rfl rfl
theorem q_t6_180 : (Cond.selects "SheetFolder" ⟨"SheetFolder", "ordersWith", "(II)J"⟩ ⟨"SheetFolder", "ordersWith", "(II)J"⟩) ∈ WA := wa_q tbl_6 180 rfl rfl
theorem q_t6_181 : (Cond.code ⟨"SheetFolder", "ordersWith", "(II)J"⟩ prog_1_method_46_code 3 (some .long)) ∈ WA := wa_q tbl_6 181 rfl rfl
theorem q_t6_187 : (Cond.instanceMethod ⟨"SheetFolder", "costIfTurned", "(I)I"⟩) ∈ WA := wa_q tbl_6 187 rfl rfl
theorem q_t6_188 : (Cond.selects "SheetFolder" ⟨"SheetFolder", "costIfTurned", "(I)I"⟩ ⟨"SheetFolder", "costIfTurned", "(I)I"⟩) ∈ WA := wa_q tbl_6 188 rfl rfl
theorem q_t6_189 : (Cond.code ⟨"SheetFolder", "costIfTurned", "(I)I"⟩ prog_1_method_50_code 2 (some .int)) ∈ WA := wa_q tbl_6 189 rfl rfl
theorem q_t6_190 : (Cond.methodLink "SheetFolder" 270 ⟨"SheetFolder", "requireFlat", "()V"⟩) ∈ WA := wa_q tbl_6 190 rfl rfl
theorem q_t6_192 : (Cond.instanceMethod ⟨"SheetFolder", "requireFlat", "()V"⟩) ∈ WA := wa_q tbl_6 192 rfl rfl
theorem q_t6_193 : (Cond.code ⟨"SheetFolder", "requireFlat", "()V"⟩ prog_1_method_68_code 1 none) ∈ WA := wa_q tbl_6 193 rfl rfl
theorem q_t6_194 : (Cond.classLink "SheetFolder" 276 "java/lang/IllegalStateException") ∈ WA := wa_q tbl_6 194 rfl rfl
theorem q_t6_214 : (Cond.instanceMethod ⟨"SheetFolder", "fold", "(II)I"⟩) ∈ WA := wa_q tbl_6 214 rfl rfl
theorem q_t6_215 : (Cond.selects "SheetFolder" ⟨"SheetFolder", "fold", "(II)I"⟩ ⟨"SheetFolder", "fold", "(II)I"⟩) ∈ WA := wa_q tbl_6 215 rfl rfl
theorem q_t6_216 : (Cond.code ⟨"SheetFolder", "fold", "(II)I"⟩ prog_1_method_51_code 3 (some .int)) ∈ WA := wa_q tbl_6 216 rfl rfl
theorem q_t6_218 : (Cond.methodLink "SheetFolder" 281 ⟨"SheetFolder", "makeStep", "(I)I"⟩) ∈ WA := wa_q tbl_6 218 rfl rfl
theorem q_t6_220 : (Cond.instanceMethod ⟨"SheetFolder", "makeStep", "(I)I"⟩) ∈ WA := wa_q tbl_6 220 rfl rfl
theorem q_t6_221 : (Cond.code ⟨"SheetFolder", "makeStep", "(I)I"⟩ prog_1_method_53_code 3 (some .int)) ∈ WA := wa_q tbl_6 221 rfl rfl
theorem q_t6_222 : (Cond.methodLink "SheetFolder" 289 ⟨"SheetFolder$Part", "addStep", "(III)V"⟩) ∈ WA := wa_q tbl_6 222 rfl rfl
theorem q_t6_223 : (Cond.instanceMethod ⟨"SheetFolder$Part", "addStep", "(III)V"⟩) ∈ WA := wa_q tbl_6 223 rfl rfl
theorem q_t6_224 : (Cond.selects "SheetFolder$Part" ⟨"SheetFolder$Part", "addStep", "(III)V"⟩ ⟨"SheetFolder$Part", "addStep", "(III)V"⟩) ∈ WA := wa_q tbl_6 224 rfl rfl
theorem q_t6_225 : (Cond.code ⟨"SheetFolder$Part", "addStep", "(III)V"⟩ prog_3_method_20_code 4 none) ∈ WA := wa_q tbl_6 225 rfl rfl
theorem q_t6_230 : (Cond.instanceMethod ⟨"SheetFolder", "foldNext", "()I"⟩) ∈ WA := wa_q tbl_6 230 rfl rfl
theorem q_t6_231 : (Cond.selects "SheetFolder" ⟨"SheetFolder", "foldNext", "()I"⟩ ⟨"SheetFolder", "foldNext", "()I"⟩) ∈ WA := wa_q tbl_6 231 rfl rfl
theorem q_t6_232 : (Cond.code ⟨"SheetFolder", "foldNext", "()I"⟩ prog_1_method_52_code 2 (some .int)) ∈ WA := wa_q tbl_6 232 rfl rfl
theorem q_t6_238 : (Cond.instanceMethod ⟨"SheetFolder", "setLeg", "(II)I"⟩) ∈ WA := wa_q tbl_6 238 rfl rfl
theorem q_t6_239 : (Cond.selects "SheetFolder" ⟨"SheetFolder", "setLeg", "(II)I"⟩ ⟨"SheetFolder", "setLeg", "(II)I"⟩) ∈ WA := wa_q tbl_6 239 rfl rfl
theorem q_t7_0 : (Cond.code ⟨"SheetFolder", "setLeg", "(II)I"⟩ prog_1_method_55_code 4 (some .int)) ∈ WA := wa_q tbl_7 0 rfl rfl
theorem q_t7_1 : (Cond.fieldLink "SheetFolder" 296 "SheetFolder$Word" "LEG" "LSheetFolder$Word;") ∈ WA := wa_q tbl_7 1 rfl rfl
theorem q_t7_2 : (Cond.methodLink "SheetFolder" 300 ⟨"SheetFolder$Word", "allows", "(II)Z"⟩) ∈ WA := wa_q tbl_7 2 rfl rfl
theorem q_t7_8 : (Cond.instanceMethod ⟨"SheetFolder", "setDirection", "(IZ)Z"⟩) ∈ WA := wa_q tbl_7 8 rfl rfl
theorem q_t7_9 : (Cond.selects "SheetFolder" ⟨"SheetFolder", "setDirection", "(IZ)Z"⟩ ⟨"SheetFolder", "setDirection", "(IZ)Z"⟩) ∈ WA := wa_q tbl_7 9 rfl rfl
theorem q_t7_10 : (Cond.code ⟨"SheetFolder", "setDirection", "(IZ)Z"⟩ prog_1_method_56_code 4 (some .boolean)) ∈ WA := wa_q tbl_7 10 rfl rfl
theorem q_t7_15 : (Cond.instanceMethod ⟨"SheetFolder", "setTool", "(III)I"⟩) ∈ WA := wa_q tbl_7 15 rfl rfl
theorem q_t7_16 : (Cond.selects "SheetFolder" ⟨"SheetFolder", "setTool", "(III)I"⟩ ⟨"SheetFolder", "setTool", "(III)I"⟩) ∈ WA := wa_q tbl_7 16 rfl rfl
theorem q_t7_17 : (Cond.code ⟨"SheetFolder", "setTool", "(III)I"⟩ prog_1_method_57_code 6 (some .int)) ∈ WA := wa_q tbl_7 17 rfl rfl
theorem q_t7_18 : (Cond.methodLink "SheetFolder" 306 ⟨"SheetFolder$Word", "allowsBehind", "(III)Z"⟩) ∈ WA := wa_q tbl_7 18 rfl rfl
theorem q_t7_20 : (Cond.methodLink "SheetFolder" 312 ⟨"SheetFolder$Part", "putTool", "(III)V"⟩) ∈ WA := wa_q tbl_7 20 rfl rfl
theorem q_t7_25 : (Cond.instanceMethod ⟨"SheetFolder", "setSheet", "(III)I"⟩) ∈ WA := wa_q tbl_7 25 rfl rfl
theorem q_t7_26 : (Cond.selects "SheetFolder" ⟨"SheetFolder", "setSheet", "(III)I"⟩ ⟨"SheetFolder", "setSheet", "(III)I"⟩) ∈ WA := wa_q tbl_7 26 rfl rfl
theorem q_t7_27 : (Cond.code ⟨"SheetFolder", "setSheet", "(III)I"⟩ prog_1_method_58_code 5 (some .int)) ∈ WA := wa_q tbl_7 27 rfl rfl
theorem q_t7_28 : (Cond.fieldLink "SheetFolder" 315 "SheetFolder$Word" "SHEET" "LSheetFolder$Word;") ∈ WA := wa_q tbl_7 28 rfl rfl
theorem q_t7_30 : (Cond.methodLink "SheetFolder" 323 ⟨"SheetFolder$Part", "putSheet", "(III)V"⟩) ∈ WA := wa_q tbl_7 30 rfl rfl
theorem q_t7_35 : (Cond.instanceMethod ⟨"SheetFolder", "setCost", "(III)I"⟩) ∈ WA := wa_q tbl_7 35 rfl rfl
theorem q_t7_36 : (Cond.selects "SheetFolder" ⟨"SheetFolder", "setCost", "(III)I"⟩ ⟨"SheetFolder", "setCost", "(III)I"⟩) ∈ WA := wa_q tbl_7 36 rfl rfl
theorem q_t7_37 : (Cond.code ⟨"SheetFolder", "setCost", "(III)I"⟩ prog_1_method_59_code 5 (some .int)) ∈ WA := wa_q tbl_7 37 rfl rfl
theorem q_t7_38 : (Cond.fieldLink "SheetFolder" 326 "SheetFolder$Word" "COST" "LSheetFolder$Word;") ∈ WA := wa_q tbl_7 38 rfl rfl
theorem q_t7_40 : (Cond.methodLink "SheetFolder" 334 ⟨"SheetFolder$Part", "putCosts", "(III)V"⟩) ∈ WA := wa_q tbl_7 40 rfl rfl
theorem q_t7_65 : (Cond.methodLink "SheetFolderModel" 64 ⟨"SheetFolderModel", "reset", "()V"⟩) ∈ WA := wa_q tbl_7 65 rfl rfl
theorem q_t7_67 : (Cond.instanceMethod ⟨"SheetFolderModel", "reset", "()V"⟩) ∈ WA := wa_q tbl_7 67 rfl rfl
theorem q_t7_68 : (Cond.code ⟨"SheetFolderModel", "reset", "()V"⟩ prog_9_method_22_code 2 none) ∈ WA := wa_q tbl_7 68 rfl rfl
theorem q_t7_69 : (Cond.methodLink "SheetFolderModel" 136 ⟨"SheetFolderModel", "lay", "(IIII)V"⟩) ∈ WA := wa_q tbl_7 69 rfl rfl
theorem q_t7_71 : (Cond.instanceMethod ⟨"SheetFolderModel", "lay", "(IIII)V"⟩) ∈ WA := wa_q tbl_7 71 rfl rfl
theorem q_t7_72 : (Cond.code ⟨"SheetFolderModel", "lay", "(IIII)V"⟩ prog_9_method_21_code 5 none) ∈ WA := wa_q tbl_7 72 rfl rfl
theorem q_t7_73 : (Cond.methodLink "SheetFolderModel" 67 ⟨"SheetFolderModel", "copy", "([I[I)V"⟩) ∈ WA := wa_q tbl_7 73 rfl rfl
theorem q_t7_74 : (Cond.static ⟨"SheetFolderModel", "copy", "([I[I)V"⟩) ∈ WA := wa_q tbl_7 74 rfl rfl
theorem q_t7_75 : (Cond.code ⟨"SheetFolderModel", "copy", "([I[I)V"⟩ prog_9_method_7_code 3 none) ∈ WA := wa_q tbl_7 75 rfl rfl
theorem q_t7_76 : (Cond.fieldLink "SheetFolderModel" 7 "SheetFolderModel" "s" "[I") ∈ WA := wa_q tbl_7 76 rfl rfl
theorem q_t7_77 : (Cond.fieldLink "SheetFolderModel" 13 "SheetFolderModel" "parsed" "[I") ∈ WA := wa_q tbl_7 77 rfl rfl
theorem q_t7_79 : (Cond.fieldLink "SheetFolderModel" 19 "SheetFolderModel" "history" "[I") ∈ WA := wa_q tbl_7 79 rfl rfl
theorem q_t7_80 : (Cond.fieldLink "SheetFolderModel" 74 "SheetFolderModel" "edits" "I") ∈ WA := wa_q tbl_7 80 rfl rfl
theorem q_t7_81 : (Cond.fieldLink "SheetFolderModel" 71 "SheetFolderModel" "thrown" "I") ∈ WA := wa_q tbl_7 81 rfl rfl
theorem q_t7_82 : (Cond.fieldLink "SheetFolderModel" 22 "SheetFolderModel" "buffer" "[I") ∈ WA := wa_q tbl_7 82 rfl rfl
theorem q_t7_83 : (Cond.fieldLink "SheetFolderModel" 77 "SheetFolderModel" "buffered" "I") ∈ WA := wa_q tbl_7 83 rfl rfl
theorem q_t7_84 : (Cond.fieldLink "SheetFolderModel" 198 "SheetFolderModel" "errorKind" "I") ∈ WA := wa_q tbl_7 84 rfl rfl
theorem q_t7_85 : (Cond.fieldLink "SheetFolderModel" 25 "SheetFolderModel" "errorPosition" "I") ∈ WA := wa_q tbl_7 85 rfl rfl
theorem q_t7_86 : (Cond.fieldLink "SheetFolderModel" 84 "SheetFolderModel" "length" "I") ∈ WA := wa_q tbl_7 86 rfl rfl
theorem q_t7_87 : (Cond.fieldLink "SheetFolderModel" 94 "SheetFolderModel" "start" "I") ∈ WA := wa_q tbl_7 87 rfl rfl
theorem q_t7_88 : (Cond.fieldLink "SheetFolderModel" 87 "SheetFolderModel" "next" "I") ∈ WA := wa_q tbl_7 88 rfl rfl
theorem q_t7_89 : (Cond.fieldLink "SheetFolderModel" 97 "SheetFolderModel" "token" "I") ∈ WA := wa_q tbl_7 89 rfl rfl
theorem q_t7_90 : (Cond.fieldLink "SheetFolderModel" 107 "SheetFolderModel" "value" "I") ∈ WA := wa_q tbl_7 90 rfl rfl
theorem q_t7_91 : (Cond.fieldLink "SheetFolderModel" 119 "SheetFolderModel" "kind" "I") ∈ WA := wa_q tbl_7 91 rfl rfl
theorem q_t7_92 : (Cond.fieldLink "SheetFolderModel" 122 "SheetFolderModel" "position" "I") ∈ WA := wa_q tbl_7 92 rfl rfl
theorem q_t7_93 : (Cond.fieldLink "SheetFolderModel" 29 "SheetFolderModel" "fromX" "[I") ∈ WA := wa_q tbl_7 93 rfl rfl
theorem q_t7_94 : (Cond.fieldLink "SheetFolderModel" 32 "SheetFolderModel" "fromY" "[I") ∈ WA := wa_q tbl_7 94 rfl rfl
theorem q_t7_95 : (Cond.fieldLink "SheetFolderModel" 35 "SheetFolderModel" "toX" "[I") ∈ WA := wa_q tbl_7 95 rfl rfl
theorem q_t7_96 : (Cond.fieldLink "SheetFolderModel" 38 "SheetFolderModel" "toY" "[I") ∈ WA := wa_q tbl_7 96 rfl rfl
theorem q_t7_97 : (Cond.fieldLink "SheetFolderModel" 257 "SheetFolderModel" "x" "I") ∈ WA := wa_q tbl_7 97 rfl rfl
theorem q_t7_98 : (Cond.fieldLink "SheetFolderModel" 260 "SheetFolderModel" "y" "I") ∈ WA := wa_q tbl_7 98 rfl rfl
theorem q_t7_99 : (Cond.fieldLink "SheetFolderModel" 41 "SheetFolderModel" "can" "[Z") ∈ WA := wa_q tbl_7 99 rfl rfl
theorem q_t7_100 : (Cond.fieldLink "SheetFolderModel" 45 "SheetFolderModel" "gauges" "[I") ∈ WA := wa_q tbl_7 100 rfl rfl
theorem q_t7_101 : (Cond.fieldLink "SheetFolderModel" 48 "SheetFolderModel" "many" "[J") ∈ WA := wa_q tbl_7 101 rfl rfl
theorem q_t7_102 : (Cond.fieldLink "SheetFolderModel" 52 "SheetFolderModel" "least" "[I") ∈ WA := wa_q tbl_7 102 rfl rfl
theorem q_t7_103 : (Cond.fieldLink "SheetFolderModel" 55 "SheetFolderModel" "most" "[I") ∈ WA := wa_q tbl_7 103 rfl rfl
theorem q_t7_104 : (Cond.fieldLink "SheetFolderModel" 58 "SheetFolderModel" "isReached" "[Z") ∈ WA := wa_q tbl_7 104 rfl rfl
theorem q_t7_105 : (Cond.fieldLink "SheetFolderModel" 61 "SheetFolderModel" "output" "[I") ∈ WA := wa_q tbl_7 105 rfl rfl
theorem q_t7_106 : (Cond.fieldLink "SheetFolderModel" 435 "SheetFolderModel" "outputLength" "I") ∈ WA := wa_q tbl_7 106 rfl rfl
theorem q_t7_107 : (Cond.laysFinal "SheetFolderModel" "SheetFolderModel" "s" "[I") ∈ WA := wa_q tbl_7 107 rfl rfl
theorem q_t7_109 : (Cond.laysFinal "SheetFolderModel" "SheetFolderModel" "parsed" "[I") ∈ WA := wa_q tbl_7 109 rfl rfl
theorem q_t7_111 : (Cond.laysFinal "SheetFolderModel" "SheetFolderModel" "aside" "[I") ∈ WA := wa_q tbl_7 111 rfl rfl
theorem q_t7_113 : (Cond.laysFinal "SheetFolderModel" "SheetFolderModel" "history" "[I") ∈ WA := wa_q tbl_7 113 rfl rfl
theorem q_t7_115 : (Cond.lays "SheetFolderModel" "SheetFolderModel" "edits" "I") ∈ WA := wa_q tbl_7 115 rfl rfl
theorem q_t7_117 : (Cond.lays "SheetFolderModel" "SheetFolderModel" "thrown" "I") ∈ WA := wa_q tbl_7 117 rfl rfl
theorem q_t7_119 : (Cond.laysFinal "SheetFolderModel" "SheetFolderModel" "buffer" "[I") ∈ WA := wa_q tbl_7 119 rfl rfl
theorem q_t7_121 : (Cond.lays "SheetFolderModel" "SheetFolderModel" "buffered" "I") ∈ WA := wa_q tbl_7 121 rfl rfl
theorem q_t7_123 : (Cond.lays "SheetFolderModel" "SheetFolderModel" "errorKind" "I") ∈ WA := wa_q tbl_7 123 rfl rfl
theorem q_t7_125 : (Cond.lays "SheetFolderModel" "SheetFolderModel" "errorPosition" "I") ∈ WA := wa_q tbl_7 125 rfl rfl
theorem q_t7_127 : (Cond.lays "SheetFolderModel" "SheetFolderModel" "length" "I") ∈ WA := wa_q tbl_7 127 rfl rfl
theorem q_t7_129 : (Cond.lays "SheetFolderModel" "SheetFolderModel" "start" "I") ∈ WA := wa_q tbl_7 129 rfl rfl
theorem q_t7_131 : (Cond.lays "SheetFolderModel" "SheetFolderModel" "next" "I") ∈ WA := wa_q tbl_7 131 rfl rfl
theorem q_t7_133 : (Cond.lays "SheetFolderModel" "SheetFolderModel" "token" "I") ∈ WA := wa_q tbl_7 133 rfl rfl
theorem q_t7_135 : (Cond.lays "SheetFolderModel" "SheetFolderModel" "value" "I") ∈ WA := wa_q tbl_7 135 rfl rfl
theorem q_t7_137 : (Cond.lays "SheetFolderModel" "SheetFolderModel" "kind" "I") ∈ WA := wa_q tbl_7 137 rfl rfl
theorem q_t7_139 : (Cond.lays "SheetFolderModel" "SheetFolderModel" "position" "I") ∈ WA := wa_q tbl_7 139 rfl rfl
theorem q_t7_141 : (Cond.laysFinal "SheetFolderModel" "SheetFolderModel" "fromX" "[I") ∈ WA := wa_q tbl_7 141 rfl rfl
theorem q_t7_143 : (Cond.laysFinal "SheetFolderModel" "SheetFolderModel" "fromY" "[I") ∈ WA := wa_q tbl_7 143 rfl rfl
theorem q_t7_145 : (Cond.laysFinal "SheetFolderModel" "SheetFolderModel" "toX" "[I") ∈ WA := wa_q tbl_7 145 rfl rfl
theorem q_t7_147 : (Cond.laysFinal "SheetFolderModel" "SheetFolderModel" "toY" "[I") ∈ WA := wa_q tbl_7 147 rfl rfl
theorem q_t7_149 : (Cond.lays "SheetFolderModel" "SheetFolderModel" "x" "I") ∈ WA := wa_q tbl_7 149 rfl rfl
theorem q_t7_151 : (Cond.lays "SheetFolderModel" "SheetFolderModel" "y" "I") ∈ WA := wa_q tbl_7 151 rfl rfl
theorem q_t7_153 : (Cond.laysFinal "SheetFolderModel" "SheetFolderModel" "can" "[Z") ∈ WA := wa_q tbl_7 153 rfl rfl
theorem q_t7_155 : (Cond.laysFinal "SheetFolderModel" "SheetFolderModel" "gauges" "[I") ∈ WA := wa_q tbl_7 155 rfl rfl
theorem q_t7_157 : (Cond.laysFinal "SheetFolderModel" "SheetFolderModel" "many" "[J") ∈ WA := wa_q tbl_7 157 rfl rfl
theorem q_t7_159 : (Cond.laysFinal "SheetFolderModel" "SheetFolderModel" "least" "[I") ∈ WA := wa_q tbl_7 159 rfl rfl
theorem q_t7_161 : (Cond.laysFinal "SheetFolderModel" "SheetFolderModel" "most" "[I") ∈ WA := wa_q tbl_7 161 rfl rfl
theorem q_t7_163 : (Cond.laysFinal "SheetFolderModel" "SheetFolderModel" "isReached" "[Z") ∈ WA := wa_q tbl_7 163 rfl rfl
theorem q_t7_165 : (Cond.laysFinal "SheetFolderModel" "SheetFolderModel" "output" "[I") ∈ WA := wa_q tbl_7 165 rfl rfl
theorem q_t7_167 : (Cond.lays "SheetFolderModel" "SheetFolderModel" "outputLength" "I") ∈ WA := wa_q tbl_7 167 rfl rfl
theorem q_t7_171 : (Cond.instanceMethod ⟨"SheetFolderModel", "thrown", "()I"⟩) ∈ WA := wa_q tbl_7 171 rfl rfl
theorem q_t7_172 : (Cond.selects "SheetFolderModel" ⟨"SheetFolderModel", "thrown", "()I"⟩ ⟨"SheetFolderModel", "thrown", "()I"⟩) ∈ WA := wa_q tbl_7 172 rfl rfl
theorem q_t7_173 : (Cond.code ⟨"SheetFolderModel", "thrown", "()I"⟩ prog_9_method_2_code 1 (some .int)) ∈ WA := wa_q tbl_7 173 rfl rfl
theorem q_t7_175 : (Cond.instanceMethod ⟨"SheetFolderModel", "undo", "()I"⟩) ∈ WA := wa_q tbl_7 175 rfl rfl
theorem q_t7_176 : (Cond.selects "SheetFolderModel" ⟨"SheetFolderModel", "undo", "()I"⟩ ⟨"SheetFolderModel", "undo", "()I"⟩) ∈ WA := wa_q tbl_7 176 rfl rfl
theorem q_t7_177 : (Cond.code ⟨"SheetFolderModel", "undo", "()I"⟩ prog_9_method_10_code 2 (some .int)) ∈ WA := wa_q tbl_7 177 rfl rfl
theorem q_t7_179 : (Cond.instanceMethod ⟨"SheetFolderModel", "feed", "(IIIII)I"⟩) ∈ WA := wa_q tbl_7 179 rfl rfl
theorem q_t7_180 : (Cond.selects "SheetFolderModel" ⟨"SheetFolderModel", "feed", "(IIIII)I"⟩ ⟨"SheetFolderModel", "feed", "(IIIII)I"⟩) ∈ WA := wa_q tbl_7 180 rfl rfl
theorem q_t7_181 : (Cond.code ⟨"SheetFolderModel", "feed", "(IIIII)I"⟩ prog_9_method_12_code 6 (some .int)) ∈ WA := wa_q tbl_7 181 rfl rfl
theorem q_t7_182 : (Cond.methodLink "SheetFolderModel" 80 ⟨"SheetFolderModel", "append", "(I)V"⟩) ∈ WA := wa_q tbl_7 182 rfl rfl
theorem q_t7_184 : (Cond.instanceMethod ⟨"SheetFolderModel", "append", "(I)V"⟩) ∈ WA := wa_q tbl_7 184 rfl rfl
theorem q_t7_185 : (Cond.code ⟨"SheetFolderModel", "append", "(I)V"⟩ prog_9_method_11_code 3 none) ∈ WA := wa_q tbl_7 185 rfl rfl
theorem q_t7_187 : (Cond.instanceMethod ⟨"SheetFolderModel", "load", "(I)I"⟩) ∈ WA := wa_q tbl_7 187 rfl rfl
theorem q_t7_188 : (Cond.selects "SheetFolderModel" ⟨"SheetFolderModel", "load", "(I)I"⟩ ⟨"SheetFolderModel", "load", "(I)I"⟩) ∈ WA := wa_q tbl_7 188 rfl rfl
theorem q_t7_189 : (Cond.code ⟨"SheetFolderModel", "load", "(I)I"⟩ prog_9_method_31_code 3 (some .int)) ∈ WA := wa_q tbl_7 189 rfl rfl
theorem q_t7_190 : (Cond.methodLink "SheetFolderModel" 128 ⟨"SheetFolderModel", "between", "(JJJ)Z"⟩) ∈ WA := wa_q tbl_7 190 rfl rfl
theorem q_t7_191 : (Cond.static ⟨"SheetFolderModel", "between", "(JJJ)Z"⟩) ∈ WA := wa_q tbl_7 191 rfl rfl
theorem q_t7_192 : (Cond.code ⟨"SheetFolderModel", "between", "(JJJ)Z"⟩ prog_9_method_3_code 6 (some .boolean)) ∈ WA := wa_q tbl_7 192 rfl rfl
theorem q_t7_193 : (Cond.methodLink "SheetFolderModel" 132 ⟨"SheetFolderModel", "advance", "()Z"⟩) ∈ WA := wa_q tbl_7 193 rfl rfl
theorem q_t7_195 : (Cond.instanceMethod ⟨"SheetFolderModel", "advance", "()Z"⟩) ∈ WA := wa_q tbl_7 195 rfl rfl
theorem q_t7_196 : (Cond.code ⟨"SheetFolderModel", "advance", "()Z"⟩ prog_9_method_16_code 2 (some .boolean)) ∈ WA := wa_q tbl_7 196 rfl rfl
theorem q_t7_197 : (Cond.methodLink "SheetFolderModel" 90 ⟨"SheetFolderModel", "byteAt", "(I)I"⟩) ∈ WA := wa_q tbl_7 197 rfl rfl
theorem q_t7_199 : (Cond.instanceMethod ⟨"SheetFolderModel", "byteAt", "(I)I"⟩) ∈ WA := wa_q tbl_7 199 rfl rfl
theorem q_t7_200 : (Cond.code ⟨"SheetFolderModel", "byteAt", "(I)I"⟩ prog_9_method_13_code 2 (some .int)) ∈ WA := wa_q tbl_7 200 rfl rfl
theorem q_t7_201 : (Cond.methodLink "SheetFolderModel" 100 ⟨"SheetFolderModel", "isLetter", "(I)Z"⟩) ∈ WA := wa_q tbl_7 201 rfl rfl
theorem q_t7_202 : (Cond.static ⟨"SheetFolderModel", "isLetter", "(I)Z"⟩) ∈ WA := wa_q tbl_7 202 rfl rfl
theorem q_t7_203 : (Cond.code ⟨"SheetFolderModel", "isLetter", "(I)Z"⟩ prog_9_method_14_code 1 (some .boolean)) ∈ WA := wa_q tbl_7 203 rfl rfl
theorem q_t7_204 : (Cond.methodLink "SheetFolderModel" 104 ⟨"SheetFolderModel", "isDigit", "(I)Z"⟩) ∈ WA := wa_q tbl_7 204 rfl rfl
theorem q_t7_205 : (Cond.static ⟨"SheetFolderModel", "isDigit", "(I)Z"⟩) ∈ WA := wa_q tbl_7 205 rfl rfl
theorem q_t7_206 : (Cond.code ⟨"SheetFolderModel", "isDigit", "(I)Z"⟩ prog_9_method_15_code 1 (some .boolean)) ∈ WA := wa_q tbl_7 206 rfl rfl
theorem q_t7_207 : (Cond.methodLink "SheetFolderModel" 192 ⟨"SheetFolderModel", "statement", "()Z"⟩) ∈ WA := wa_q tbl_7 207 rfl rfl
theorem q_t7_209 : (Cond.instanceMethod ⟨"SheetFolderModel", "statement", "()Z"⟩) ∈ WA := wa_q tbl_7 209 rfl rfl
theorem q_t7_210 : (Cond.code ⟨"SheetFolderModel", "statement", "()Z"⟩ prog_9_method_30_code 2 (some .boolean)) ∈ WA := wa_q tbl_7 210 rfl rfl
theorem q_t7_212 : (Cond.methodLink "SheetFolderModel" 146 ⟨"SheetFolderModel", "isWord", "(Ljava/lang/String;)Z"⟩) ∈ WA := wa_q tbl_7 212 rfl rfl
theorem q_t7_214 : (Cond.instanceMethod ⟨"SheetFolderModel", "isWord", "(Ljava/lang/String;)Z"⟩) ∈ WA := wa_q tbl_7 214 rfl rfl
theorem q_t7_215 : (Cond.code ⟨"SheetFolderModel", "isWord", "(Ljava/lang/String;)Z"⟩ prog_9_method_17_code 3 (some .boolean)) ∈ WA := wa_q tbl_7 215 rfl rfl
theorem q_t7_216 : (Cond.methodLink "SheetFolderModel" 110 ⟨"java/lang/String", "length", "()I"⟩) ∈ WA := wa_q tbl_7 216 rfl rfl
theorem q_t7_217 : (Cond.methodLink "SheetFolderModel" 115 ⟨"java/lang/String", "charAt", "(I)C"⟩) ∈ WA := wa_q tbl_7 217 rfl rfl
theorem q_t7_218 : (Cond.methodLink "SheetFolderModel" 160 ⟨"SheetFolderModel", "sheetStatement", "()Z"⟩) ∈ WA := wa_q tbl_7 218 rfl rfl
theorem q_t7_220 : (Cond.instanceMethod ⟨"SheetFolderModel", "sheetStatement", "()Z"⟩) ∈ WA := wa_q tbl_7 220 rfl rfl
theorem q_t7_221 : (Cond.code ⟨"SheetFolderModel", "sheetStatement", "()Z"⟩ prog_9_method_23_code 1 (some .boolean)) ∈ WA := wa_q tbl_7 221 rfl rfl
theorem q_t7_222 : (Cond.methodLink "SheetFolderModel" 140 ⟨"SheetFolderModel", "number", "(III)Z"⟩) ∈ WA := wa_q tbl_7 222 rfl rfl
theorem q_t7_224 : (Cond.instanceMethod ⟨"SheetFolderModel", "number", "(III)Z"⟩) ∈ WA := wa_q tbl_7 224 rfl rfl
theorem q_t7_225 : (Cond.code ⟨"SheetFolderModel", "number", "(III)Z"⟩ prog_9_method_19_code 4 (some .boolean)) ∈ WA := wa_q tbl_7 225 rfl rfl
theorem q_t7_226 : (Cond.methodLink "SheetFolderModel" 125 ⟨"SheetFolderModel", "fail", "(I)Z"⟩) ∈ WA := wa_q tbl_7 226 rfl rfl
theorem q_t7_228 : (Cond.instanceMethod ⟨"SheetFolderModel", "fail", "(I)Z"⟩) ∈ WA := wa_q tbl_7 228 rfl rfl
theorem q_t7_229 : (Cond.code ⟨"SheetFolderModel", "fail", "(I)Z"⟩ prog_9_method_18_code 2 (some .boolean)) ∈ WA := wa_q tbl_7 229 rfl rfl
theorem q_t7_231 : (Cond.methodLink "SheetFolderModel" 165 ⟨"SheetFolderModel", "legStatement", "()Z"⟩) ∈ WA := wa_q tbl_7 231 rfl rfl
theorem q_t7_233 : (Cond.instanceMethod ⟨"SheetFolderModel", "legStatement", "()Z"⟩) ∈ WA := wa_q tbl_7 233 rfl rfl
theorem q_t7_234 : (Cond.code ⟨"SheetFolderModel", "legStatement", "()Z"⟩ prog_9_method_24_code 1 (some .boolean)) ∈ WA := wa_q tbl_7 234 rfl rfl
theorem q_t7_237 : (Cond.methodLink "SheetFolderModel" 172 ⟨"SheetFolderModel", "bendStatement", "(Z)Z"⟩) ∈ WA := wa_q tbl_7 237 rfl rfl
theorem q_t7_239 : (Cond.instanceMethod ⟨"SheetFolderModel", "bendStatement", "(Z)Z"⟩) ∈ WA := wa_q tbl_7 239 rfl rfl
theorem q_t8_0 : (Cond.code ⟨"SheetFolderModel", "bendStatement", "(Z)Z"⟩ prog_9_method_25_code 3 (some .boolean)) ∈ WA := wa_q tbl_8 0 rfl rfl
theorem q_t8_2 : (Cond.methodLink "SheetFolderModel" 178 ⟨"SheetFolderModel", "backStatement", "()Z"⟩) ∈ WA := wa_q tbl_8 2 rfl rfl
theorem q_t8_4 : (Cond.instanceMethod ⟨"SheetFolderModel", "backStatement", "()Z"⟩) ∈ WA := wa_q tbl_8 4 rfl rfl
theorem q_t8_5 : (Cond.code ⟨"SheetFolderModel", "backStatement", "()Z"⟩ prog_9_method_26_code 3 (some .boolean)) ∈ WA := wa_q tbl_8 5 rfl rfl
theorem q_t8_7 : (Cond.methodLink "SheetFolderModel" 183 ⟨"SheetFolderModel", "costStatement", "()Z"⟩) ∈ WA := wa_q tbl_8 7 rfl rfl
theorem q_t8_9 : (Cond.instanceMethod ⟨"SheetFolderModel", "costStatement", "()Z"⟩) ∈ WA := wa_q tbl_8 9 rfl rfl
theorem q_t8_10 : (Cond.code ⟨"SheetFolderModel", "costStatement", "()Z"⟩ prog_9_method_28_code 1 (some .boolean)) ∈ WA := wa_q tbl_8 10 rfl rfl
theorem q_t8_11 : (Cond.methodLink "SheetFolderModel" 186 ⟨"SheetFolderModel", "toolHere", "()I"⟩) ∈ WA := wa_q tbl_8 11 rfl rfl
theorem q_t8_13 : (Cond.instanceMethod ⟨"SheetFolderModel", "toolHere", "()I"⟩) ∈ WA := wa_q tbl_8 13 rfl rfl
theorem q_t8_14 : (Cond.code ⟨"SheetFolderModel", "toolHere", "()I"⟩ prog_9_method_29_code 1 (some .int)) ∈ WA := wa_q tbl_8 14 rfl rfl
theorem q_t8_20 : (Cond.methodLink "SheetFolderModel" 189 ⟨"SheetFolderModel", "toolStatement", "(I)Z"⟩) ∈ WA := wa_q tbl_8 20 rfl rfl
theorem q_t8_22 : (Cond.instanceMethod ⟨"SheetFolderModel", "toolStatement", "(I)Z"⟩) ∈ WA := wa_q tbl_8 22 rfl rfl
theorem q_t8_23 : (Cond.code ⟨"SheetFolderModel", "toolStatement", "(I)Z"⟩ prog_9_method_27_code 3 (some .boolean)) ∈ WA := wa_q tbl_8 23 rfl rfl
theorem q_t8_24 : (Cond.methodLink "SheetFolderModel" 195 ⟨"SheetFolderModel", "closed", "()Z"⟩) ∈ WA := wa_q tbl_8 24 rfl rfl
theorem q_t8_26 : (Cond.instanceMethod ⟨"SheetFolderModel", "closed", "()Z"⟩) ∈ WA := wa_q tbl_8 26 rfl rfl
theorem q_t8_27 : (Cond.code ⟨"SheetFolderModel", "closed", "()Z"⟩ prog_9_method_20_code 1 (some .boolean)) ∈ WA := wa_q tbl_8 27 rfl rfl
theorem q_t8_29 : (Cond.instanceMethod ⟨"SheetFolderModel", "errorKind", "()I"⟩) ∈ WA := wa_q tbl_8 29 rfl rfl
theorem q_t8_30 : (Cond.selects "SheetFolderModel" ⟨"SheetFolderModel", "errorKind", "()I"⟩ ⟨"SheetFolderModel", "errorKind", "()I"⟩) ∈ WA := wa_q tbl_8 30 rfl rfl
theorem q_t8_31 : (Cond.code ⟨"SheetFolderModel", "errorKind", "()I"⟩ prog_9_method_32_code 1 (some .int)) ∈ WA := wa_q tbl_8 31 rfl rfl
theorem q_t8_33 : (Cond.instanceMethod ⟨"SheetFolderModel", "errorPosition", "()I"⟩) ∈ WA := wa_q tbl_8 33 rfl rfl
theorem q_t8_34 : (Cond.selects "SheetFolderModel" ⟨"SheetFolderModel", "errorPosition", "()I"⟩ ⟨"SheetFolderModel", "errorPosition", "()I"⟩) ∈ WA := wa_q tbl_8 34 rfl rfl
theorem q_t8_35 : (Cond.code ⟨"SheetFolderModel", "errorPosition", "()I"⟩ prog_9_method_33_code 1 (some .int)) ∈ WA := wa_q tbl_8 35 rfl rfl
theorem q_t8_37 : (Cond.instanceMethod ⟨"SheetFolderModel", "bends", "()I"⟩) ∈ WA := wa_q tbl_8 37 rfl rfl
theorem q_t8_38 : (Cond.selects "SheetFolderModel" ⟨"SheetFolderModel", "bends", "()I"⟩ ⟨"SheetFolderModel", "bends", "()I"⟩) ∈ WA := wa_q tbl_8 38 rfl rfl
theorem q_t8_39 : (Cond.code ⟨"SheetFolderModel", "bends", "()I"⟩ prog_9_method_38_code 1 (some .int)) ∈ WA := wa_q tbl_8 39 rfl rfl
theorem q_t8_40 : (Cond.methodLink "SheetFolderModel" 201 ⟨"SheetFolderModel", "tellNow", "(I)I"⟩) ∈ WA := wa_q tbl_8 40 rfl rfl
theorem q_t8_42 : (Cond.instanceMethod ⟨"SheetFolderModel", "tellNow", "(I)I"⟩) ∈ WA := wa_q tbl_8 42 rfl rfl
theorem q_t8_43 : (Cond.code ⟨"SheetFolderModel", "tellNow", "(I)I"⟩ prog_9_method_37_code 2 (some .int)) ∈ WA := wa_q tbl_8 43 rfl rfl
theorem q_t8_45 : (Cond.instanceMethod ⟨"SheetFolderModel", "legs", "()I"⟩) ∈ WA := wa_q tbl_8 45 rfl rfl
theorem q_t8_46 : (Cond.selects "SheetFolderModel" ⟨"SheetFolderModel", "legs", "()I"⟩ ⟨"SheetFolderModel", "legs", "()I"⟩) ∈ WA := wa_q tbl_8 46 rfl rfl
theorem q_t8_47 : (Cond.code ⟨"SheetFolderModel", "legs", "()I"⟩ prog_9_method_39_code 1 (some .int)) ∈ WA := wa_q tbl_8 47 rfl rfl
theorem q_t8_49 : (Cond.instanceMethod ⟨"SheetFolderModel", "leg", "(I)I"⟩) ∈ WA := wa_q tbl_8 49 rfl rfl
theorem q_t8_50 : (Cond.selects "SheetFolderModel" ⟨"SheetFolderModel", "leg", "(I)I"⟩ ⟨"SheetFolderModel", "leg", "(I)I"⟩) ∈ WA := wa_q tbl_8 50 rfl rfl
theorem q_t8_51 : (Cond.code ⟨"SheetFolderModel", "leg", "(I)I"⟩ prog_9_method_40_code 2 (some .int)) ∈ WA := wa_q tbl_8 51 rfl rfl
theorem q_t8_52 : (Cond.methodLink "SheetFolderModel" 204 ⟨"SheetFolderModel", "isLeg", "(I)Z"⟩) ∈ WA := wa_q tbl_8 52 rfl rfl
theorem q_t8_54 : (Cond.instanceMethod ⟨"SheetFolderModel", "isLeg", "(I)Z"⟩) ∈ WA := wa_q tbl_8 54 rfl rfl
theorem q_t8_55 : (Cond.code ⟨"SheetFolderModel", "isLeg", "(I)Z"⟩ prog_9_method_35_code 2 (some .boolean)) ∈ WA := wa_q tbl_8 55 rfl rfl
theorem q_t8_56 : (Cond.methodLink "SheetFolderModel" 207 ⟨"SheetFolderModel", "good", "(Z)Z"⟩) ∈ WA := wa_q tbl_8 56 rfl rfl
theorem q_t8_58 : (Cond.instanceMethod ⟨"SheetFolderModel", "good", "(Z)Z"⟩) ∈ WA := wa_q tbl_8 58 rfl rfl
theorem q_t8_59 : (Cond.code ⟨"SheetFolderModel", "good", "(Z)Z"⟩ prog_9_method_4_code 2 (some .boolean)) ∈ WA := wa_q tbl_8 59 rfl rfl
theorem q_t8_61 : (Cond.instanceMethod ⟨"SheetFolderModel", "isUp", "(I)Z"⟩) ∈ WA := wa_q tbl_8 61 rfl rfl
theorem q_t8_62 : (Cond.selects "SheetFolderModel" ⟨"SheetFolderModel", "isUp", "(I)Z"⟩ ⟨"SheetFolderModel", "isUp", "(I)Z"⟩) ∈ WA := wa_q tbl_8 62 rfl rfl
theorem q_t8_63 : (Cond.code ⟨"SheetFolderModel", "isUp", "(I)Z"⟩ prog_9_method_41_code 2 (some .boolean)) ∈ WA := wa_q tbl_8 63 rfl rfl
theorem q_t8_64 : (Cond.methodLink "SheetFolderModel" 210 ⟨"SheetFolderModel", "isBend", "(I)Z"⟩) ∈ WA := wa_q tbl_8 64 rfl rfl
theorem q_t8_66 : (Cond.instanceMethod ⟨"SheetFolderModel", "isBend", "(I)Z"⟩) ∈ WA := wa_q tbl_8 66 rfl rfl
theorem q_t8_67 : (Cond.code ⟨"SheetFolderModel", "isBend", "(I)Z"⟩ prog_9_method_34_code 2 (some .boolean)) ∈ WA := wa_q tbl_8 67 rfl rfl
theorem q_t8_69 : (Cond.instanceMethod ⟨"SheetFolderModel", "deduction", "()D"⟩) ∈ WA := wa_q tbl_8 69 rfl rfl
theorem q_t8_70 : (Cond.selects "SheetFolderModel" ⟨"SheetFolderModel", "deduction", "()D"⟩ ⟨"SheetFolderModel", "deduction", "()D"⟩) ∈ WA := wa_q tbl_8 70 rfl rfl
theorem q_t8_71 : (Cond.code ⟨"SheetFolderModel", "deduction", "()D"⟩ prog_9_method_44_code 1 (some .double)) ∈ WA := wa_q tbl_8 71 rfl rfl
theorem q_t8_72 : (Cond.methodLink "SheetFolderModel" 219 ⟨"SheetFolderModel", "deductionNow", "()D"⟩) ∈ WA := wa_q tbl_8 72 rfl rfl
theorem q_t8_74 : (Cond.instanceMethod ⟨"SheetFolderModel", "deductionNow", "()D"⟩) ∈ WA := wa_q tbl_8 74 rfl rfl
theorem q_t8_75 : (Cond.code ⟨"SheetFolderModel", "deductionNow", "()D"⟩ prog_9_method_43_code 7 (some .double)) ∈ WA := wa_q tbl_8 75 rfl rfl
theorem q_t8_76 : (Cond.constantDouble "SheetFolderModel" 213 (4611686018427387904 : UInt64)) ∈ WA := wa_q tbl_8 76 rfl rfl
theorem q_t8_77 : (Cond.constantDouble "SheetFolderModel" 215 (4609753073467320487 : UInt64)) ∈ WA := wa_q tbl_8 77 rfl rfl
theorem q_t8_78 : (Cond.constantDouble "SheetFolderModel" 217 (4636737291354636288 : UInt64)) ∈ WA := wa_q tbl_8 78 rfl rfl
theorem q_t8_80 : (Cond.instanceMethod ⟨"SheetFolderModel", "flatLength", "()D"⟩) ∈ WA := wa_q tbl_8 80 rfl rfl
theorem q_t8_81 : (Cond.selects "SheetFolderModel" ⟨"SheetFolderModel", "flatLength", "()D"⟩ ⟨"SheetFolderModel", "flatLength", "()D"⟩) ∈ WA := wa_q tbl_8 81 rfl rfl
theorem q_t8_82 : (Cond.code ⟨"SheetFolderModel", "flatLength", "()D"⟩ prog_9_method_45_code 1 (some .double)) ∈ WA := wa_q tbl_8 82 rfl rfl
theorem q_t8_83 : (Cond.methodLink "SheetFolderModel" 223 ⟨"SheetFolderModel", "sumOfLegs", "(I)I"⟩) ∈ WA := wa_q tbl_8 83 rfl rfl
theorem q_t8_85 : (Cond.instanceMethod ⟨"SheetFolderModel", "sumOfLegs", "(I)I"⟩) ∈ WA := wa_q tbl_8 85 rfl rfl
theorem q_t8_86 : (Cond.code ⟨"SheetFolderModel", "sumOfLegs", "(I)I"⟩ prog_9_method_42_code 4 (some .int)) ∈ WA := wa_q tbl_8 86 rfl rfl
theorem q_t8_88 : (Cond.instanceMethod ⟨"SheetFolderModel", "linePlace", "(I)D"⟩) ∈ WA := wa_q tbl_8 88 rfl rfl
theorem q_t8_89 : (Cond.selects "SheetFolderModel" ⟨"SheetFolderModel", "linePlace", "(I)D"⟩ ⟨"SheetFolderModel", "linePlace", "(I)D"⟩) ∈ WA := wa_q tbl_8 89 rfl rfl
theorem q_t8_90 : (Cond.code ⟨"SheetFolderModel", "linePlace", "(I)D"⟩ prog_9_method_46_code 2 (some .double)) ∈ WA := wa_q tbl_8 90 rfl rfl
theorem q_t8_91 : (Cond.constantDouble "SheetFolderModel" 226 (4602678819172646912 : UInt64)) ∈ WA := wa_q tbl_8 91 rfl rfl
theorem q_t8_93 : (Cond.instanceMethod ⟨"SheetFolderModel", "ratio", "()D"⟩) ∈ WA := wa_q tbl_8 93 rfl rfl
theorem q_t8_94 : (Cond.selects "SheetFolderModel" ⟨"SheetFolderModel", "ratio", "()D"⟩ ⟨"SheetFolderModel", "ratio", "()D"⟩) ∈ WA := wa_q tbl_8 94 rfl rfl
theorem q_t8_95 : (Cond.code ⟨"SheetFolderModel", "ratio", "()D"⟩ prog_9_method_48_code 1 (some .double)) ∈ WA := wa_q tbl_8 95 rfl rfl
theorem q_t8_96 : (Cond.methodLink "SheetFolderModel" 230 ⟨"SheetFolderModel", "ratioNow", "()D"⟩) ∈ WA := wa_q tbl_8 96 rfl rfl
theorem q_t8_98 : (Cond.instanceMethod ⟨"SheetFolderModel", "ratioNow", "()D"⟩) ∈ WA := wa_q tbl_8 98 rfl rfl
theorem q_t8_99 : (Cond.code ⟨"SheetFolderModel", "ratioNow", "()D"⟩ prog_9_method_47_code 1 (some .double)) ∈ WA := wa_q tbl_8 99 rfl rfl
theorem q_t8_100 : (Cond.constantDouble "SheetFolderModel" 228 (4621819117588971520 : UInt64)) ∈ WA := wa_q tbl_8 100 rfl rfl
theorem q_t8_102 : (Cond.instanceMethod ⟨"SheetFolderModel", "springBack", "()D"⟩) ∈ WA := wa_q tbl_8 102 rfl rfl
theorem q_t8_103 : (Cond.selects "SheetFolderModel" ⟨"SheetFolderModel", "springBack", "()D"⟩ ⟨"SheetFolderModel", "springBack", "()D"⟩) ∈ WA := wa_q tbl_8 103 rfl rfl
theorem q_t8_104 : (Cond.code ⟨"SheetFolderModel", "springBack", "()D"⟩ prog_9_method_52_code 1 (some .double)) ∈ WA := wa_q tbl_8 104 rfl rfl
theorem q_t8_105 : (Cond.methodLink "SheetFolderModel" 240 ⟨"SheetFolderModel", "springBy", "(D)D"⟩) ∈ WA := wa_q tbl_8 105 rfl rfl
theorem q_t8_107 : (Cond.instanceMethod ⟨"SheetFolderModel", "springBy", "(D)D"⟩) ∈ WA := wa_q tbl_8 107 rfl rfl
theorem q_t8_108 : (Cond.code ⟨"SheetFolderModel", "springBy", "(D)D"⟩ prog_9_method_51_code 5 (some .double)) ∈ WA := wa_q tbl_8 108 rfl rfl
theorem q_t8_109 : (Cond.methodLink "SheetFolderModel" 233 ⟨"SheetFolderModel", "ratioOf", "(I)D"⟩) ∈ WA := wa_q tbl_8 109 rfl rfl
theorem q_t8_111 : (Cond.instanceMethod ⟨"SheetFolderModel", "ratioOf", "(I)D"⟩) ∈ WA := wa_q tbl_8 111 rfl rfl
theorem q_t8_112 : (Cond.code ⟨"SheetFolderModel", "ratioOf", "(I)D"⟩ prog_9_method_49_code 2 (some .double)) ∈ WA := wa_q tbl_8 112 rfl rfl
theorem q_t8_113 : (Cond.methodLink "SheetFolderModel" 237 ⟨"SheetFolderModel", "angleOf", "(I)D"⟩) ∈ WA := wa_q tbl_8 113 rfl rfl
theorem q_t8_115 : (Cond.instanceMethod ⟨"SheetFolderModel", "angleOf", "(I)D"⟩) ∈ WA := wa_q tbl_8 115 rfl rfl
theorem q_t8_116 : (Cond.code ⟨"SheetFolderModel", "angleOf", "(I)D"⟩ prog_9_method_50_code 2 (some .double)) ∈ WA := wa_q tbl_8 116 rfl rfl
theorem q_t8_118 : (Cond.instanceMethod ⟨"SheetFolderModel", "springBackFor", "(D)D"⟩) ∈ WA := wa_q tbl_8 118 rfl rfl
theorem q_t8_119 : (Cond.selects "SheetFolderModel" ⟨"SheetFolderModel", "springBackFor", "(D)D"⟩ ⟨"SheetFolderModel", "springBackFor", "(D)D"⟩) ∈ WA := wa_q tbl_8 119 rfl rfl
theorem q_t8_120 : (Cond.code ⟨"SheetFolderModel", "springBackFor", "(D)D"⟩ prog_9_method_53_code 3 (some .double)) ∈ WA := wa_q tbl_8 120 rfl rfl
theorem q_t8_121 : (Cond.constantDouble "SheetFolderModel" 244 (4666722622711529472 : UInt64)) ∈ WA := wa_q tbl_8 121 rfl rfl
theorem q_t8_123 : (Cond.instanceMethod ⟨"SheetFolderModel", "swingAngle", "()I"⟩) ∈ WA := wa_q tbl_8 123 rfl rfl
theorem q_t8_124 : (Cond.selects "SheetFolderModel" ⟨"SheetFolderModel", "swingAngle", "()I"⟩ ⟨"SheetFolderModel", "swingAngle", "()I"⟩) ∈ WA := wa_q tbl_8 124 rfl rfl
theorem q_t8_125 : (Cond.code ⟨"SheetFolderModel", "swingAngle", "()I"⟩ prog_9_method_54_code 1 (some .int)) ∈ WA := wa_q tbl_8 125 rfl rfl
theorem q_t8_126 : (Cond.constantDouble "SheetFolderModel" 246 (4651127699538968576 : UInt64)) ∈ WA := wa_q tbl_8 126 rfl rfl
theorem q_t8_128 : (Cond.instanceMethod ⟨"SheetFolderModel", "tool", "(II)I"⟩) ∈ WA := wa_q tbl_8 128 rfl rfl
theorem q_t8_129 : (Cond.selects "SheetFolderModel" ⟨"SheetFolderModel", "tool", "(II)I"⟩ ⟨"SheetFolderModel", "tool", "(II)I"⟩) ∈ WA := wa_q tbl_8 129 rfl rfl
theorem q_t8_130 : (Cond.code ⟨"SheetFolderModel", "tool", "(II)I"⟩ prog_9_method_56_code 3 (some .int)) ∈ WA := wa_q tbl_8 130 rfl rfl
theorem q_t8_131 : (Cond.methodLink "SheetFolderModel" 250 ⟨"SheetFolderModel", "isTool", "(II)Z"⟩) ∈ WA := wa_q tbl_8 131 rfl rfl
theorem q_t8_132 : (Cond.static ⟨"SheetFolderModel", "isTool", "(II)Z"⟩) ∈ WA := wa_q tbl_8 132 rfl rfl
theorem q_t8_133 : (Cond.code ⟨"SheetFolderModel", "isTool", "(II)Z"⟩ prog_9_method_55_code 2 (some .boolean)) ∈ WA := wa_q tbl_8 133 rfl rfl
theorem q_t8_134 : (Cond.constantLong "SheetFolderModel" 248 4) ∈ WA := wa_q tbl_8 134 rfl rfl
theorem q_t8_136 : (Cond.instanceMethod ⟨"SheetFolderModel", "isSymmetric", "()Z"⟩) ∈ WA := wa_q tbl_8 136 rfl rfl
theorem q_t8_137 : (Cond.selects "SheetFolderModel" ⟨"SheetFolderModel", "isSymmetric", "()Z"⟩ ⟨"SheetFolderModel", "isSymmetric", "()Z"⟩) ∈ WA := wa_q tbl_8 137 rfl rfl
theorem q_t8_138 : (Cond.code ⟨"SheetFolderModel", "isSymmetric", "()Z"⟩ prog_9_method_58_code 1 (some .boolean)) ∈ WA := wa_q tbl_8 138 rfl rfl
theorem q_t8_139 : (Cond.methodLink "SheetFolderModel" 254 ⟨"SheetFolderModel", "isMirrored", "(II)Z"⟩) ∈ WA := wa_q tbl_8 139 rfl rfl
theorem q_t8_141 : (Cond.instanceMethod ⟨"SheetFolderModel", "isMirrored", "(II)Z"⟩) ∈ WA := wa_q tbl_8 141 rfl rfl
theorem q_t8_142 : (Cond.code ⟨"SheetFolderModel", "isMirrored", "(II)Z"⟩ prog_9_method_57_code 5 (some .boolean)) ∈ WA := wa_q tbl_8 142 rfl rfl
theorem q_t8_144 : (Cond.instanceMethod ⟨"SheetFolderModel", "longestLeg", "()I"⟩) ∈ WA := wa_q tbl_8 144 rfl rfl
theorem q_t8_145 : (Cond.selects "SheetFolderModel" ⟨"SheetFolderModel", "longestLeg", "()I"⟩ ⟨"SheetFolderModel", "longestLeg", "()I"⟩) ∈ WA := wa_q tbl_8 145 rfl rfl
theorem q_t8_146 : (Cond.code ⟨"SheetFolderModel", "longestLeg", "()I"⟩ prog_9_method_59_code 3 (some .int)) ∈ WA := wa_q tbl_8 146 rfl rfl
theorem q_t8_148 : (Cond.instanceMethod ⟨"SheetFolderModel", "finishedWidth", "()I"⟩) ∈ WA := wa_q tbl_8 148 rfl rfl
theorem q_t8_149 : (Cond.selects "SheetFolderModel" ⟨"SheetFolderModel", "finishedWidth", "()I"⟩ ⟨"SheetFolderModel", "finishedWidth", "()I"⟩) ∈ WA := wa_q tbl_8 149 rfl rfl
theorem q_t8_150 : (Cond.code ⟨"SheetFolderModel", "finishedWidth", "()I"⟩ prog_9_method_81_code 4 (some .int)) ∈ WA := wa_q tbl_8 150 rfl rfl
theorem q_t8_151 : (Cond.methodLink "SheetFolderModel" 339 ⟨"SheetFolderModel", "layFinished", "()V"⟩) ∈ WA := wa_q tbl_8 151 rfl rfl
theorem q_t8_153 : (Cond.instanceMethod ⟨"SheetFolderModel", "layFinished", "()V"⟩) ∈ WA := wa_q tbl_8 153 rfl rfl
theorem q_t8_154 : (Cond.code ⟨"SheetFolderModel", "layFinished", "()V"⟩ prog_9_method_80_code 3 none) ∈ WA := wa_q tbl_8 154 rfl rfl
theorem q_t8_155 : (Cond.methodLink "SheetFolderModel" 269 ⟨"SheetFolderModel", "layLeg", "(II)V"⟩) ∈ WA := wa_q tbl_8 155 rfl rfl
theorem q_t8_157 : (Cond.instanceMethod ⟨"SheetFolderModel", "layLeg", "(II)V"⟩) ∈ WA := wa_q tbl_8 157 rfl rfl
theorem q_t8_158 : (Cond.code ⟨"SheetFolderModel", "layLeg", "(II)V"⟩ prog_9_method_62_code 3 none) ∈ WA := wa_q tbl_8 158 rfl rfl
theorem q_t8_159 : (Cond.methodLink "SheetFolderModel" 263 ⟨"SheetFolderModel", "acrossOf", "(I)I"⟩) ∈ WA := wa_q tbl_8 159 rfl rfl
theorem q_t8_160 : (Cond.static ⟨"SheetFolderModel", "acrossOf", "(I)I"⟩) ∈ WA := wa_q tbl_8 160 rfl rfl
theorem q_t8_161 : (Cond.code ⟨"SheetFolderModel", "acrossOf", "(I)I"⟩ prog_9_method_60_code 1 (some .int)) ∈ WA := wa_q tbl_8 161 rfl rfl
theorem q_t8_162 : (Cond.methodLink "SheetFolderModel" 266 ⟨"SheetFolderModel", "upOf", "(I)I"⟩) ∈ WA := wa_q tbl_8 162 rfl rfl
theorem q_t8_163 : (Cond.static ⟨"SheetFolderModel", "upOf", "(I)I"⟩) ∈ WA := wa_q tbl_8 163 rfl rfl
theorem q_t8_164 : (Cond.code ⟨"SheetFolderModel", "upOf", "(I)I"⟩ prog_9_method_61_code 1 (some .int)) ∈ WA := wa_q tbl_8 164 rfl rfl
theorem q_t8_165 : (Cond.methodLink "SheetFolderModel" 280 ⟨"java/lang/Math", "min", "(II)I"⟩) ∈ WA := wa_q tbl_8 165 rfl rfl
theorem q_t8_166 : (Cond.methodLink "SheetFolderModel" 286 ⟨"java/lang/Math", "max", "(II)I"⟩) ∈ WA := wa_q tbl_8 166 rfl rfl
theorem q_t8_168 : (Cond.instanceMethod ⟨"SheetFolderModel", "finishedHeight", "()I"⟩) ∈ WA := wa_q tbl_8 168 rfl rfl
theorem q_t8_169 : (Cond.selects "SheetFolderModel" ⟨"SheetFolderModel", "finishedHeight", "()I"⟩ ⟨"SheetFolderModel", "finishedHeight", "()I"⟩) ∈ WA := wa_q tbl_8 169 rfl rfl
theorem q_t8_170 : (Cond.code ⟨"SheetFolderModel", "finishedHeight", "()I"⟩ prog_9_method_82_code 4 (some .int)) ∈ WA := wa_q tbl_8 170 rfl rfl
theorem q_t8_172 : (Cond.instanceMethod ⟨"SheetFolderModel", "isFinishedCrossed", "()Z"⟩) ∈ WA := wa_q tbl_8 172 rfl rfl
theorem q_t8_173 : (Cond.selects "SheetFolderModel" ⟨"SheetFolderModel", "isFinishedCrossed", "()Z"⟩ ⟨"SheetFolderModel", "isFinishedCrossed", "()Z"⟩) ∈ WA := wa_q tbl_8 173 rfl rfl
theorem q_t8_174 : (Cond.code ⟨"SheetFolderModel", "isFinishedCrossed", "()Z"⟩ prog_9_method_83_code 1 (some .boolean)) ∈ WA := wa_q tbl_8 174 rfl rfl
theorem q_t8_175 : (Cond.methodLink "SheetFolderModel" 336 ⟨"SheetFolderModel", "isCrossed", "()Z"⟩) ∈ WA := wa_q tbl_8 175 rfl rfl
theorem q_t8_177 : (Cond.instanceMethod ⟨"SheetFolderModel", "isCrossed", "()Z"⟩) ∈ WA := wa_q tbl_8 177 rfl rfl
theorem q_t8_178 : (Cond.code ⟨"SheetFolderModel", "isCrossed", "()Z"⟩ prog_9_method_74_code 4 (some .boolean)) ∈ WA := wa_q tbl_8 178 rfl rfl
theorem q_t8_179 : (Cond.methodLink "SheetFolderModel" 309 ⟨"SheetFolderModel", "overlap", "(IIII)Z"⟩) ∈ WA := wa_q tbl_8 179 rfl rfl
theorem q_t8_180 : (Cond.static ⟨"SheetFolderModel", "overlap", "(IIII)Z"⟩) ∈ WA := wa_q tbl_8 180 rfl rfl
theorem q_t8_181 : (Cond.code ⟨"SheetFolderModel", "overlap", "(IIII)Z"⟩ prog_9_method_73_code 4 (some .boolean)) ∈ WA := wa_q tbl_8 181 rfl rfl
theorem q_t8_183 : (Cond.instanceMethod ⟨"SheetFolderModel", "finishedCorner", "(II)I"⟩) ∈ WA := wa_q tbl_8 183 rfl rfl
theorem q_t8_184 : (Cond.selects "SheetFolderModel" ⟨"SheetFolderModel", "finishedCorner", "(II)I"⟩ ⟨"SheetFolderModel", "finishedCorner", "(II)I"⟩) ∈ WA := wa_q tbl_8 184 rfl rfl
theorem q_t8_185 : (Cond.code ⟨"SheetFolderModel", "finishedCorner", "(II)I"⟩ prog_9_method_84_code 3 (some .int)) ∈ WA := wa_q tbl_8 185 rfl rfl
theorem q_t8_186 : (Cond.methodLink "SheetFolderModel" 342 ⟨"SheetFolderModel", "good", "(ZZ)Z"⟩) ∈ WA := wa_q tbl_8 186 rfl rfl
theorem q_t8_188 : (Cond.instanceMethod ⟨"SheetFolderModel", "good", "(ZZ)Z"⟩) ∈ WA := wa_q tbl_8 188 rfl rfl
theorem q_t8_189 : (Cond.code ⟨"SheetFolderModel", "good", "(ZZ)Z"⟩ prog_9_method_5_code 3 (some .boolean)) ∈ WA := wa_q tbl_8 189 rfl rfl
theorem q_t8_191 : (Cond.instanceMethod ⟨"SheetFolderModel", "made", "()I"⟩) ∈ WA := wa_q tbl_8 191 rfl rfl
theorem q_t8_192 : (Cond.selects "SheetFolderModel" ⟨"SheetFolderModel", "made", "()I"⟩ ⟨"SheetFolderModel", "made", "()I"⟩) ∈ WA := wa_q tbl_8 192 rfl rfl
theorem q_t8_193 : (Cond.code ⟨"SheetFolderModel", "made", "()I"⟩ prog_9_method_87_code 1 (some .int)) ∈ WA := wa_q tbl_8 193 rfl rfl
theorem q_t8_195 : (Cond.instanceMethod ⟨"SheetFolderModel", "steps", "()I"⟩) ∈ WA := wa_q tbl_8 195 rfl rfl
theorem q_t8_196 : (Cond.selects "SheetFolderModel" ⟨"SheetFolderModel", "steps", "()I"⟩ ⟨"SheetFolderModel", "steps", "()I"⟩) ∈ WA := wa_q tbl_8 196 rfl rfl
theorem q_t8_197 : (Cond.code ⟨"SheetFolderModel", "steps", "()I"⟩ prog_9_method_88_code 1 (some .int)) ∈ WA := wa_q tbl_8 197 rfl rfl
theorem q_t8_199 : (Cond.instanceMethod ⟨"SheetFolderModel", "step", "(II)I"⟩) ∈ WA := wa_q tbl_8 199 rfl rfl
theorem q_t8_200 : (Cond.selects "SheetFolderModel" ⟨"SheetFolderModel", "step", "(II)I"⟩ ⟨"SheetFolderModel", "step", "(II)I"⟩) ∈ WA := wa_q tbl_8 200 rfl rfl
theorem q_t8_201 : (Cond.code ⟨"SheetFolderModel", "step", "(II)I"⟩ prog_9_method_89_code 3 (some .int)) ∈ WA := wa_q tbl_8 201 rfl rfl
theorem q_t8_202 : (Cond.constantLong "SheetFolderModel" 348 3) ∈ WA := wa_q tbl_8 202 rfl rfl
theorem q_t8_203 : (Cond.methodLink "SheetFolderModel" 345 ⟨"SheetFolderModel", "stepOf", "(II)I"⟩) ∈ WA := wa_q tbl_8 203 rfl rfl
theorem q_t8_205 : (Cond.instanceMethod ⟨"SheetFolderModel", "stepOf", "(II)I"⟩) ∈ WA := wa_q tbl_8 205 rfl rfl
theorem q_t8_206 : (Cond.code ⟨"SheetFolderModel", "stepOf", "(II)I"⟩ prog_9_method_85_code 3 (some .int)) ∈ WA := wa_q tbl_8 206 rfl rfl
theorem q_t8_208 : (Cond.instanceMethod ⟨"SheetFolderModel", "costSoFar", "()I"⟩) ∈ WA := wa_q tbl_8 208 rfl rfl
theorem q_t8_209 : (Cond.selects "SheetFolderModel" ⟨"SheetFolderModel", "costSoFar", "()I"⟩ ⟨"SheetFolderModel", "costSoFar", "()I"⟩) ∈ WA := wa_q tbl_8 209 rfl rfl
theorem q_t8_210 : (Cond.code ⟨"SheetFolderModel", "costSoFar", "()I"⟩ prog_9_method_90_code 1 (some .int)) ∈ WA := wa_q tbl_8 210 rfl rfl
theorem q_t8_211 : (Cond.methodLink "SheetFolderModel" 350 ⟨"SheetFolderModel", "sumOfCosts", "()I"⟩) ∈ WA := wa_q tbl_8 211 rfl rfl
theorem q_t8_213 : (Cond.instanceMethod ⟨"SheetFolderModel", "sumOfCosts", "()I"⟩) ∈ WA := wa_q tbl_8 213 rfl rfl
theorem q_t8_214 : (Cond.code ⟨"SheetFolderModel", "sumOfCosts", "()I"⟩ prog_9_method_86_code 3 (some .int)) ∈ WA := wa_q tbl_8 214 rfl rfl
theorem q_t8_216 : (Cond.instanceMethod ⟨"SheetFolderModel", "reason", "(II)I"⟩) ∈ WA := wa_q tbl_8 216 rfl rfl
theorem q_t8_217 : (Cond.selects "SheetFolderModel" ⟨"SheetFolderModel", "reason", "(II)I"⟩ ⟨"SheetFolderModel", "reason", "(II)I"⟩) ∈ WA := wa_q tbl_8 217 rfl rfl
theorem q_t8_218 : (Cond.code ⟨"SheetFolderModel", "reason", "(II)I"⟩ prog_9_method_91_code 3 (some .int)) ∈ WA := wa_q tbl_8 218 rfl rfl
theorem q_t8_219 : (Cond.methodLink "SheetFolderModel" 353 ⟨"SheetFolderModel", "isSide", "(I)Z"⟩) ∈ WA := wa_q tbl_8 219 rfl rfl
theorem q_t8_220 : (Cond.static ⟨"SheetFolderModel", "isSide", "(I)Z"⟩) ∈ WA := wa_q tbl_8 220 rfl rfl
theorem q_t8_221 : (Cond.code ⟨"SheetFolderModel", "isSide", "(I)Z"⟩ prog_9_method_36_code 1 (some .boolean)) ∈ WA := wa_q tbl_8 221 rfl rfl
theorem q_t8_222 : (Cond.methodLink "SheetFolderModel" 356 ⟨"SheetFolderModel", "reasonOf", "(III)I"⟩) ∈ WA := wa_q tbl_8 222 rfl rfl
theorem q_t8_224 : (Cond.instanceMethod ⟨"SheetFolderModel", "reasonOf", "(III)I"⟩) ∈ WA := wa_q tbl_8 224 rfl rfl
theorem q_t8_225 : (Cond.code ⟨"SheetFolderModel", "reasonOf", "(III)I"⟩ prog_9_method_79_code 4 (some .int)) ∈ WA := wa_q tbl_8 225 rfl rfl
theorem q_t8_226 : (Cond.methodLink "SheetFolderModel" 273 ⟨"SheetFolderModel", "has", "(II)Z"⟩) ∈ WA := wa_q tbl_8 226 rfl rfl
theorem q_t8_227 : (Cond.static ⟨"SheetFolderModel", "has", "(II)Z"⟩) ∈ WA := wa_q tbl_8 227 rfl rfl
theorem q_t8_228 : (Cond.code ⟨"SheetFolderModel", "has", "(II)Z"⟩ prog_9_method_8_code 2 (some .boolean)) ∈ WA := wa_q tbl_8 228 rfl rfl
theorem q_t8_229 : (Cond.methodLink "SheetFolderModel" 322 ⟨"SheetFolderModel", "isShort", "(II)Z"⟩) ∈ WA := wa_q tbl_8 229 rfl rfl
theorem q_t8_231 : (Cond.instanceMethod ⟨"SheetFolderModel", "isShort", "(II)Z"⟩) ∈ WA := wa_q tbl_8 231 rfl rfl
theorem q_t8_232 : (Cond.code ⟨"SheetFolderModel", "isShort", "(II)Z"⟩ prog_9_method_77_code 4 (some .boolean)) ∈ WA := wa_q tbl_8 232 rfl rfl
theorem q_t8_233 : (Cond.methodLink "SheetFolderModel" 293 ⟨"SheetFolderModel", "toolOf", "(II)I"⟩) ∈ WA := wa_q tbl_8 233 rfl rfl
theorem q_t8_235 : (Cond.instanceMethod ⟨"SheetFolderModel", "toolOf", "(II)I"⟩) ∈ WA := wa_q tbl_8 235 rfl rfl
theorem q_t8_236 : (Cond.code ⟨"SheetFolderModel", "toolOf", "(II)I"⟩ prog_9_method_68_code 3 (some .int)) ∈ WA := wa_q tbl_8 236 rfl rfl
theorem q_t8_237 : (Cond.methodLink "SheetFolderModel" 325 ⟨"SheetFolderModel", "laySheet", "(III)V"⟩) ∈ WA := wa_q tbl_8 237 rfl rfl
theorem q_t8_239 : (Cond.instanceMethod ⟨"SheetFolderModel", "laySheet", "(III)V"⟩) ∈ WA := wa_q tbl_8 239 rfl rfl
theorem q_t9_0 : (Cond.code ⟨"SheetFolderModel", "laySheet", "(III)V"⟩ prog_9_method_65_code 5 none) ∈ WA := wa_q tbl_9 0 rfl rfl
theorem q_t9_1 : (Cond.methodLink "SheetFolderModel" 276 ⟨"SheetFolderModel", "laySide", "(IIIIZI)V"⟩) ∈ WA := wa_q tbl_9 1 rfl rfl
theorem q_t9_3 : (Cond.instanceMethod ⟨"SheetFolderModel", "laySide", "(IIIIZI)V"⟩) ∈ WA := wa_q tbl_9 3 rfl rfl
theorem q_t9_4 : (Cond.code ⟨"SheetFolderModel", "laySide", "(IIIIZI)V"⟩ prog_9_method_64_code 11 none) ∈ WA := wa_q tbl_9 4 rfl rfl
theorem q_t9_5 : (Cond.methodLink "SheetFolderModel" 329 ⟨"SheetFolderModel", "isGaugeLaid", "(II)Z"⟩) ∈ WA := wa_q tbl_9 5 rfl rfl
theorem q_t9_7 : (Cond.instanceMethod ⟨"SheetFolderModel", "isGaugeLaid", "(II)Z"⟩) ∈ WA := wa_q tbl_9 7 rfl rfl
theorem q_t9_8 : (Cond.code ⟨"SheetFolderModel", "isGaugeLaid", "(II)Z"⟩ prog_9_method_78_code 3 (some .boolean)) ∈ WA := wa_q tbl_9 8 rfl rfl
theorem q_t9_9 : (Cond.methodLink "SheetFolderModel" 319 ⟨"SheetFolderModel", "gaugeLaid", "(II)I"⟩) ∈ WA := wa_q tbl_9 9 rfl rfl
theorem q_t9_11 : (Cond.instanceMethod ⟨"SheetFolderModel", "gaugeLaid", "(II)I"⟩) ∈ WA := wa_q tbl_9 11 rfl rfl
theorem q_t9_12 : (Cond.code ⟨"SheetFolderModel", "gaugeLaid", "(II)I"⟩ prog_9_method_75_code 5 (some .int)) ∈ WA := wa_q tbl_9 12 rfl rfl
theorem q_t9_13 : (Cond.methodLink "SheetFolderModel" 312 ⟨"SheetFolderModel", "isClamped", "(III)Z"⟩) ∈ WA := wa_q tbl_9 13 rfl rfl
theorem q_t9_15 : (Cond.instanceMethod ⟨"SheetFolderModel", "isClamped", "(III)Z"⟩) ∈ WA := wa_q tbl_9 15 rfl rfl
theorem q_t9_16 : (Cond.code ⟨"SheetFolderModel", "isClamped", "(III)Z"⟩ prog_9_method_63_code 4 (some .boolean)) ∈ WA := wa_q tbl_9 16 rfl rfl
theorem q_t9_17 : (Cond.methodLink "SheetFolderModel" 332 ⟨"SheetFolderModel", "hittingLaid", "(IIZZ)I"⟩) ∈ WA := wa_q tbl_9 17 rfl rfl
theorem q_t9_19 : (Cond.instanceMethod ⟨"SheetFolderModel", "hittingLaid", "(IIZZ)I"⟩) ∈ WA := wa_q tbl_9 19 rfl rfl
theorem q_t9_20 : (Cond.code ⟨"SheetFolderModel", "hittingLaid", "(IIZZ)I"⟩ prog_9_method_76_code 8 (some .int)) ∈ WA := wa_q tbl_9 20 rfl rfl
theorem q_t9_21 : (Cond.methodLink "SheetFolderModel" 315 ⟨"SheetFolderModel", "hits", "(IZ)Z"⟩) ∈ WA := wa_q tbl_9 21 rfl rfl
theorem q_t9_23 : (Cond.instanceMethod ⟨"SheetFolderModel", "hits", "(IZ)Z"⟩) ∈ WA := wa_q tbl_9 23 rfl rfl
theorem q_t9_24 : (Cond.code ⟨"SheetFolderModel", "hits", "(IZ)Z"⟩ prog_9_method_72_code 3 (some .boolean)) ∈ WA := wa_q tbl_9 24 rfl rfl
theorem q_t9_25 : (Cond.methodLink "SheetFolderModel" 300 ⟨"SheetFolderModel", "hitsBeam", "(I)Z"⟩) ∈ WA := wa_q tbl_9 25 rfl rfl
theorem q_t9_27 : (Cond.instanceMethod ⟨"SheetFolderModel", "hitsBeam", "(I)Z"⟩) ∈ WA := wa_q tbl_9 27 rfl rfl
theorem q_t9_28 : (Cond.code ⟨"SheetFolderModel", "hitsBeam", "(I)Z"⟩ prog_9_method_69_code 2 (some .boolean)) ∈ WA := wa_q tbl_9 28 rfl rfl
theorem q_t9_29 : (Cond.methodLink "SheetFolderModel" 296 ⟨"SheetFolderModel", "isInside", "(IIIII)Z"⟩) ∈ WA := wa_q tbl_9 29 rfl rfl
theorem q_t9_31 : (Cond.instanceMethod ⟨"SheetFolderModel", "isInside", "(IIIII)Z"⟩) ∈ WA := wa_q tbl_9 31 rfl rfl
theorem q_t9_32 : (Cond.code ⟨"SheetFolderModel", "isInside", "(IIIII)Z"⟩ prog_9_method_67_code 6 (some .boolean)) ∈ WA := wa_q tbl_9 32 rfl rfl
theorem q_t9_33 : (Cond.methodLink "SheetFolderModel" 289 ⟨"SheetFolderModel", "isCrossing", "(IIII)Z"⟩) ∈ WA := wa_q tbl_9 33 rfl rfl
theorem q_t9_34 : (Cond.static ⟨"SheetFolderModel", "isCrossing", "(IIII)Z"⟩) ∈ WA := wa_q tbl_9 34 rfl rfl
theorem q_t9_35 : (Cond.code ⟨"SheetFolderModel", "isCrossing", "(IIII)Z"⟩ prog_9_method_66_code 6 (some .boolean)) ∈ WA := wa_q tbl_9 35 rfl rfl
theorem q_t9_36 : (Cond.methodLink "SheetFolderModel" 303 ⟨"SheetFolderModel", "hitsTable", "(I)Z"⟩) ∈ WA := wa_q tbl_9 36 rfl rfl
theorem q_t9_38 : (Cond.instanceMethod ⟨"SheetFolderModel", "hitsTable", "(I)Z"⟩) ∈ WA := wa_q tbl_9 38 rfl rfl
theorem q_t9_39 : (Cond.code ⟨"SheetFolderModel", "hitsTable", "(I)Z"⟩ prog_9_method_70_code 2 (some .boolean)) ∈ WA := wa_q tbl_9 39 rfl rfl
theorem q_t9_40 : (Cond.methodLink "SheetFolderModel" 306 ⟨"SheetFolderModel", "hitsWing", "(I)Z"⟩) ∈ WA := wa_q tbl_9 40 rfl rfl
theorem q_t9_42 : (Cond.instanceMethod ⟨"SheetFolderModel", "hitsWing", "(I)Z"⟩) ∈ WA := wa_q tbl_9 42 rfl rfl
theorem q_t9_43 : (Cond.code ⟨"SheetFolderModel", "hitsWing", "(I)Z"⟩ prog_9_method_71_code 2 (some .boolean)) ∈ WA := wa_q tbl_9 43 rfl rfl
theorem q_t9_45 : (Cond.instanceMethod ⟨"SheetFolderModel", "gauge", "(II)I"⟩) ∈ WA := wa_q tbl_9 45 rfl rfl
theorem q_t9_46 : (Cond.selects "SheetFolderModel" ⟨"SheetFolderModel", "gauge", "(II)I"⟩ ⟨"SheetFolderModel", "gauge", "(II)I"⟩) ∈ WA := wa_q tbl_9 46 rfl rfl
theorem q_t9_47 : (Cond.code ⟨"SheetFolderModel", "gauge", "(II)I"⟩ prog_9_method_93_code 3 (some .int)) ∈ WA := wa_q tbl_9 47 rfl rfl
theorem q_t9_48 : (Cond.methodLink "SheetFolderModel" 360 ⟨"SheetFolderModel", "gaugeOf", "(III)I"⟩) ∈ WA := wa_q tbl_9 48 rfl rfl
theorem q_t9_50 : (Cond.instanceMethod ⟨"SheetFolderModel", "gaugeOf", "(III)I"⟩) ∈ WA := wa_q tbl_9 50 rfl rfl
theorem q_t9_51 : (Cond.code ⟨"SheetFolderModel", "gaugeOf", "(III)I"⟩ prog_9_method_92_code 4 (some .int)) ∈ WA := wa_q tbl_9 51 rfl rfl
theorem q_t9_53 : (Cond.instanceMethod ⟨"SheetFolderModel", "corner", "(IIII)I"⟩) ∈ WA := wa_q tbl_9 53 rfl rfl
theorem q_t9_54 : (Cond.selects "SheetFolderModel" ⟨"SheetFolderModel", "corner", "(IIII)I"⟩ ⟨"SheetFolderModel", "corner", "(IIII)I"⟩) ∈ WA := wa_q tbl_9 54 rfl rfl
theorem q_t9_55 : (Cond.code ⟨"SheetFolderModel", "corner", "(IIII)I"⟩ prog_9_method_94_code 5 (some .int)) ∈ WA := wa_q tbl_9 55 rfl rfl
theorem q_t9_57 : (Cond.instanceMethod ⟨"SheetFolderModel", "top", "(II)I"⟩) ∈ WA := wa_q tbl_9 57 rfl rfl
theorem q_t9_58 : (Cond.selects "SheetFolderModel" ⟨"SheetFolderModel", "top", "(II)I"⟩ ⟨"SheetFolderModel", "top", "(II)I"⟩) ∈ WA := wa_q tbl_9 58 rfl rfl
theorem q_t9_59 : (Cond.code ⟨"SheetFolderModel", "top", "(II)I"⟩ prog_9_method_95_code 5 (some .int)) ∈ WA := wa_q tbl_9 59 rfl rfl
theorem q_t9_61 : (Cond.instanceMethod ⟨"SheetFolderModel", "hitting", "(II)I"⟩) ∈ WA := wa_q tbl_9 61 rfl rfl
theorem q_t9_62 : (Cond.selects "SheetFolderModel" ⟨"SheetFolderModel", "hitting", "(II)I"⟩ ⟨"SheetFolderModel", "hitting", "(II)I"⟩) ∈ WA := wa_q tbl_9 62 rfl rfl
theorem q_t9_63 : (Cond.code ⟨"SheetFolderModel", "hitting", "(II)I"⟩ prog_9_method_96_code 3 (some .int)) ∈ WA := wa_q tbl_9 63 rfl rfl
theorem q_t9_65 : (Cond.instanceMethod ⟨"SheetFolderModel", "refused", "(I)I"⟩) ∈ WA := wa_q tbl_9 65 rfl rfl
theorem q_t9_66 : (Cond.selects "SheetFolderModel" ⟨"SheetFolderModel", "refused", "(I)I"⟩ ⟨"SheetFolderModel", "refused", "(I)I"⟩) ∈ WA := wa_q tbl_9 66 rfl rfl
theorem q_t9_67 : (Cond.code ⟨"SheetFolderModel", "refused", "(I)I"⟩ prog_9_method_97_code 4 (some .int)) ∈ WA := wa_q tbl_9 67 rfl rfl
theorem q_t9_68 : (Cond.constantLong "SheetFolderModel" 363 6) ∈ WA := wa_q tbl_9 68 rfl rfl
theorem q_t9_70 : (Cond.instanceMethod ⟨"SheetFolderModel", "possible", "()I"⟩) ∈ WA := wa_q tbl_9 70 rfl rfl
theorem q_t9_71 : (Cond.selects "SheetFolderModel" ⟨"SheetFolderModel", "possible", "()I"⟩ ⟨"SheetFolderModel", "possible", "()I"⟩) ∈ WA := wa_q tbl_9 71 rfl rfl
theorem q_t9_72 : (Cond.code ⟨"SheetFolderModel", "possible", "()I"⟩ prog_9_method_98_code 3 (some .int)) ∈ WA := wa_q tbl_9 72 rfl rfl
theorem q_t9_74 : (Cond.instanceMethod ⟨"SheetFolderModel", "stuck", "()I"⟩) ∈ WA := wa_q tbl_9 74 rfl rfl
theorem q_t9_75 : (Cond.selects "SheetFolderModel" ⟨"SheetFolderModel", "stuck", "()I"⟩ ⟨"SheetFolderModel", "stuck", "()I"⟩) ∈ WA := wa_q tbl_9 75 rfl rfl
theorem q_t9_76 : (Cond.code ⟨"SheetFolderModel", "stuck", "()I"⟩ prog_9_method_99_code 3 (some .int)) ∈ WA := wa_q tbl_9 76 rfl rfl
theorem q_t9_78 : (Cond.instanceMethod ⟨"SheetFolderModel", "costOf", "(II)I"⟩) ∈ WA := wa_q tbl_9 78 rfl rfl
theorem q_t9_79 : (Cond.selects "SheetFolderModel" ⟨"SheetFolderModel", "costOf", "(II)I"⟩ ⟨"SheetFolderModel", "costOf", "(II)I"⟩) ∈ WA := wa_q tbl_9 79 rfl rfl
theorem q_t9_80 : (Cond.code ⟨"SheetFolderModel", "costOf", "(II)I"⟩ prog_9_method_102_code 3 (some .int)) ∈ WA := wa_q tbl_9 80 rfl rfl
theorem q_t9_81 : (Cond.methodLink "SheetFolderModel" 369 ⟨"SheetFolderModel", "costNow", "(II)I"⟩) ∈ WA := wa_q tbl_9 81 rfl rfl
theorem q_t9_83 : (Cond.instanceMethod ⟨"SheetFolderModel", "costNow", "(II)I"⟩) ∈ WA := wa_q tbl_9 83 rfl rfl
theorem q_t9_84 : (Cond.code ⟨"SheetFolderModel", "costNow", "(II)I"⟩ prog_9_method_101_code 4 (some .int)) ∈ WA := wa_q tbl_9 84 rfl rfl
theorem q_t9_85 : (Cond.methodLink "SheetFolderModel" 365 ⟨"SheetFolderModel", "costBehind", "(IIIIII)I"⟩) ∈ WA := wa_q tbl_9 85 rfl rfl
theorem q_t9_87 : (Cond.instanceMethod ⟨"SheetFolderModel", "costBehind", "(IIIIII)I"⟩) ∈ WA := wa_q tbl_9 87 rfl rfl
theorem q_t9_88 : (Cond.code ⟨"SheetFolderModel", "costBehind", "(IIIIII)I"⟩ prog_9_method_100_code 8 (some .int)) ∈ WA := wa_q tbl_9 88 rfl rfl
theorem q_t9_90 : (Cond.instanceMethod ⟨"SheetFolderModel", "orders", "()J"⟩) ∈ WA := wa_q tbl_9 90 rfl rfl
theorem q_t9_91 : (Cond.selects "SheetFolderModel" ⟨"SheetFolderModel", "orders", "()J"⟩ ⟨"SheetFolderModel", "orders", "()J"⟩) ∈ WA := wa_q tbl_9 91 rfl rfl
theorem q_t9_92 : (Cond.code ⟨"SheetFolderModel", "orders", "()J"⟩ prog_9_method_111_code 1 (some .long)) ∈ WA := wa_q tbl_9 92 rfl rfl
theorem q_t9_93 : (Cond.methodLink "SheetFolderModel" 383 ⟨"SheetFolderModel", "layOrders", "()V"⟩) ∈ WA := wa_q tbl_9 93 rfl rfl
theorem q_t9_95 : (Cond.instanceMethod ⟨"SheetFolderModel", "layOrders", "()V"⟩) ∈ WA := wa_q tbl_9 95 rfl rfl
theorem q_t9_96 : (Cond.code ⟨"SheetFolderModel", "layOrders", "()V"⟩ prog_9_method_105_code 4 none) ∈ WA := wa_q tbl_9 96 rfl rfl
theorem q_t9_97 : (Cond.methodLink "SheetFolderModel" 372 ⟨"SheetFolderModel", "full", "()I"⟩) ∈ WA := wa_q tbl_9 97 rfl rfl
theorem q_t9_99 : (Cond.instanceMethod ⟨"SheetFolderModel", "full", "()I"⟩) ∈ WA := wa_q tbl_9 99 rfl rfl
theorem q_t9_100 : (Cond.code ⟨"SheetFolderModel", "full", "()I"⟩ prog_9_method_103_code 1 (some .int)) ∈ WA := wa_q tbl_9 100 rfl rfl
theorem q_t9_101 : (Cond.methodLink "SheetFolderModel" 375 ⟨"SheetFolderModel", "isBehind", "(I)Z"⟩) ∈ WA := wa_q tbl_9 101 rfl rfl
theorem q_t9_103 : (Cond.instanceMethod ⟨"SheetFolderModel", "isBehind", "(I)Z"⟩) ∈ WA := wa_q tbl_9 103 rfl rfl
theorem q_t9_104 : (Cond.code ⟨"SheetFolderModel", "isBehind", "(I)Z"⟩ prog_9_method_104_code 2 (some .boolean)) ∈ WA := wa_q tbl_9 104 rfl rfl
theorem q_t9_106 : (Cond.instanceMethod ⟨"SheetFolderModel", "leastCost", "()I"⟩) ∈ WA := wa_q tbl_9 106 rfl rfl
theorem q_t9_107 : (Cond.selects "SheetFolderModel" ⟨"SheetFolderModel", "leastCost", "()I"⟩ ⟨"SheetFolderModel", "leastCost", "()I"⟩) ∈ WA := wa_q tbl_9 107 rfl rfl
theorem q_t9_108 : (Cond.code ⟨"SheetFolderModel", "leastCost", "()I"⟩ prog_9_method_113_code 1 (some .int)) ∈ WA := wa_q tbl_9 108 rfl rfl
theorem q_t9_109 : (Cond.methodLink "SheetFolderModel" 398 ⟨"SheetFolderModel", "leastNow", "()I"⟩) ∈ WA := wa_q tbl_9 109 rfl rfl
theorem q_t9_111 : (Cond.instanceMethod ⟨"SheetFolderModel", "leastNow", "()I"⟩) ∈ WA := wa_q tbl_9 111 rfl rfl
theorem q_t9_112 : (Cond.code ⟨"SheetFolderModel", "leastNow", "()I"⟩ prog_9_method_112_code 1 (some .int)) ∈ WA := wa_q tbl_9 112 rfl rfl
theorem q_t9_113 : (Cond.methodLink "SheetFolderModel" 389 ⟨"SheetFolderModel", "layCosts", "()V"⟩) ∈ WA := wa_q tbl_9 113 rfl rfl
theorem q_t9_115 : (Cond.instanceMethod ⟨"SheetFolderModel", "layCosts", "()V"⟩) ∈ WA := wa_q tbl_9 115 rfl rfl
theorem q_t9_116 : (Cond.code ⟨"SheetFolderModel", "layCosts", "()V"⟩ prog_9_method_108_code 3 none) ∈ WA := wa_q tbl_9 116 rfl rfl
theorem q_t9_117 : (Cond.methodLink "SheetFolderModel" 386 ⟨"SheetFolderModel", "layCost", "(II)V"⟩) ∈ WA := wa_q tbl_9 117 rfl rfl
theorem q_t9_119 : (Cond.instanceMethod ⟨"SheetFolderModel", "layCost", "(II)V"⟩) ∈ WA := wa_q tbl_9 119 rfl rfl
theorem q_t9_120 : (Cond.code ⟨"SheetFolderModel", "layCost", "(II)V"⟩ prog_9_method_107_code 9 none) ∈ WA := wa_q tbl_9 120 rfl rfl
theorem q_t9_121 : (Cond.constant "SheetFolderModel" 378 1000000) ∈ WA := wa_q tbl_9 121 rfl rfl
theorem q_t9_122 : (Cond.constant "SheetFolderModel" 379 (-1000000 : Int32)) ∈ WA := wa_q tbl_9 122 rfl rfl
theorem q_t9_123 : (Cond.methodLink "SheetFolderModel" 380 ⟨"SheetFolderModel", "gaugeLast", "(II)I"⟩) ∈ WA := wa_q tbl_9 123 rfl rfl
theorem q_t9_125 : (Cond.instanceMethod ⟨"SheetFolderModel", "gaugeLast", "(II)I"⟩) ∈ WA := wa_q tbl_9 125 rfl rfl
theorem q_t9_126 : (Cond.code ⟨"SheetFolderModel", "gaugeLast", "(II)I"⟩ prog_9_method_106_code 3 (some .int)) ∈ WA := wa_q tbl_9 126 rfl rfl
theorem q_t9_127 : (Cond.methodLink "SheetFolderModel" 392 ⟨"SheetFolderModel", "isOrder", "()Z"⟩) ∈ WA := wa_q tbl_9 127 rfl rfl
theorem q_t9_129 : (Cond.instanceMethod ⟨"SheetFolderModel", "isOrder", "()Z"⟩) ∈ WA := wa_q tbl_9 129 rfl rfl
theorem q_t9_130 : (Cond.code ⟨"SheetFolderModel", "isOrder", "()Z"⟩ prog_9_method_110_code 1 (some .boolean)) ∈ WA := wa_q tbl_9 130 rfl rfl
theorem q_t9_131 : (Cond.methodLink "SheetFolderModel" 395 ⟨"SheetFolderModel", "lastNow", "()I"⟩) ∈ WA := wa_q tbl_9 131 rfl rfl
theorem q_t9_133 : (Cond.instanceMethod ⟨"SheetFolderModel", "lastNow", "()I"⟩) ∈ WA := wa_q tbl_9 133 rfl rfl
theorem q_t9_134 : (Cond.code ⟨"SheetFolderModel", "lastNow", "()I"⟩ prog_9_method_109_code 1 (some .int)) ∈ WA := wa_q tbl_9 134 rfl rfl
theorem q_t9_136 : (Cond.instanceMethod ⟨"SheetFolderModel", "plannedSteps", "()I"⟩) ∈ WA := wa_q tbl_9 136 rfl rfl
theorem q_t9_137 : (Cond.selects "SheetFolderModel" ⟨"SheetFolderModel", "plannedSteps", "()I"⟩ ⟨"SheetFolderModel", "plannedSteps", "()I"⟩) ∈ WA := wa_q tbl_9 137 rfl rfl
theorem q_t9_138 : (Cond.code ⟨"SheetFolderModel", "plannedSteps", "()I"⟩ prog_9_method_115_code 1 (some .int)) ∈ WA := wa_q tbl_9 138 rfl rfl
theorem q_t9_139 : (Cond.methodLink "SheetFolderModel" 401 ⟨"SheetFolderModel", "unmade", "()I"⟩) ∈ WA := wa_q tbl_9 139 rfl rfl
theorem q_t9_141 : (Cond.instanceMethod ⟨"SheetFolderModel", "unmade", "()I"⟩) ∈ WA := wa_q tbl_9 141 rfl rfl
theorem q_t9_142 : (Cond.code ⟨"SheetFolderModel", "unmade", "()I"⟩ prog_9_method_114_code 3 (some .int)) ∈ WA := wa_q tbl_9 142 rfl rfl
theorem q_t9_144 : (Cond.instanceMethod ⟨"SheetFolderModel", "planned", "(I)I"⟩) ∈ WA := wa_q tbl_9 144 rfl rfl
theorem q_t9_145 : (Cond.selects "SheetFolderModel" ⟨"SheetFolderModel", "planned", "(I)I"⟩ ⟨"SheetFolderModel", "planned", "(I)I"⟩) ∈ WA := wa_q tbl_9 145 rfl rfl
theorem q_t9_146 : (Cond.code ⟨"SheetFolderModel", "planned", "(I)I"⟩ prog_9_method_117_code 5 (some .int)) ∈ WA := wa_q tbl_9 146 rfl rfl
theorem q_t9_147 : (Cond.methodLink "SheetFolderModel" 404 ⟨"SheetFolderModel", "bestStep", "(II)I"⟩) ∈ WA := wa_q tbl_9 147 rfl rfl
theorem q_t9_149 : (Cond.instanceMethod ⟨"SheetFolderModel", "bestStep", "(II)I"⟩) ∈ WA := wa_q tbl_9 149 rfl rfl
theorem q_t9_150 : (Cond.code ⟨"SheetFolderModel", "bestStep", "(II)I"⟩ prog_9_method_116_code 6 (some .int)) ∈ WA := wa_q tbl_9 150 rfl rfl
theorem q_t9_152 : (Cond.instanceMethod ⟨"SheetFolderModel", "greatestCost", "()I"⟩) ∈ WA := wa_q tbl_9 152 rfl rfl
theorem q_t9_153 : (Cond.selects "SheetFolderModel" ⟨"SheetFolderModel", "greatestCost", "()I"⟩ ⟨"SheetFolderModel", "greatestCost", "()I"⟩) ∈ WA := wa_q tbl_9 153 rfl rfl
theorem q_t9_154 : (Cond.code ⟨"SheetFolderModel", "greatestCost", "()I"⟩ prog_9_method_118_code 1 (some .int)) ∈ WA := wa_q tbl_9 154 rfl rfl
theorem q_t9_156 : (Cond.instanceMethod ⟨"SheetFolderModel", "ordersWith", "(II)J"⟩) ∈ WA := wa_q tbl_9 156 rfl rfl
theorem q_t9_157 : (Cond.selects "SheetFolderModel" ⟨"SheetFolderModel", "ordersWith", "(II)J"⟩ ⟨"SheetFolderModel", "ordersWith", "(II)J"⟩) ∈ WA := wa_q tbl_9 157 rfl rfl
theorem q_t9_158 : (Cond.code ⟨"SheetFolderModel", "ordersWith", "(II)J"⟩ prog_9_method_119_code 3 (some .long)) ∈ WA := wa_q tbl_9 158 rfl rfl
theorem q_t9_160 : (Cond.instanceMethod ⟨"SheetFolderModel", "lastSteps", "()I"⟩) ∈ WA := wa_q tbl_9 160 rfl rfl
theorem q_t9_161 : (Cond.selects "SheetFolderModel" ⟨"SheetFolderModel", "lastSteps", "()I"⟩ ⟨"SheetFolderModel", "lastSteps", "()I"⟩) ∈ WA := wa_q tbl_9 161 rfl rfl
theorem q_t9_162 : (Cond.code ⟨"SheetFolderModel", "lastSteps", "()I"⟩ prog_9_method_121_code 4 (some .int)) ∈ WA := wa_q tbl_9 162 rfl rfl
theorem q_t9_163 : (Cond.methodLink "SheetFolderModel" 407 ⟨"SheetFolderModel", "layReached", "()V"⟩) ∈ WA := wa_q tbl_9 163 rfl rfl
theorem q_t9_165 : (Cond.instanceMethod ⟨"SheetFolderModel", "layReached", "()V"⟩) ∈ WA := wa_q tbl_9 165 rfl rfl
theorem q_t9_166 : (Cond.code ⟨"SheetFolderModel", "layReached", "()V"⟩ prog_9_method_120_code 3 none) ∈ WA := wa_q tbl_9 166 rfl rfl
theorem q_t9_168 : (Cond.instanceMethod ⟨"SheetFolderModel", "mostBends", "()I"⟩) ∈ WA := wa_q tbl_9 168 rfl rfl
theorem q_t9_169 : (Cond.selects "SheetFolderModel" ⟨"SheetFolderModel", "mostBends", "()I"⟩ ⟨"SheetFolderModel", "mostBends", "()I"⟩) ∈ WA := wa_q tbl_9 169 rfl rfl
theorem q_t9_170 : (Cond.code ⟨"SheetFolderModel", "mostBends", "()I"⟩ prog_9_method_122_code 5 (some .int)) ∈ WA := wa_q tbl_9 170 rfl rfl
theorem q_t9_172 : (Cond.instanceMethod ⟨"SheetFolderModel", "greatestBeam", "()I"⟩) ∈ WA := wa_q tbl_9 172 rfl rfl
theorem q_t9_173 : (Cond.selects "SheetFolderModel" ⟨"SheetFolderModel", "greatestBeam", "()I"⟩ ⟨"SheetFolderModel", "greatestBeam", "()I"⟩) ∈ WA := wa_q tbl_9 173 rfl rfl
theorem q_t9_174 : (Cond.code ⟨"SheetFolderModel", "greatestBeam", "()I"⟩ prog_9_method_123_code 4 (some .int)) ∈ WA := wa_q tbl_9 174 rfl rfl
theorem q_t9_176 : (Cond.instanceMethod ⟨"SheetFolderModel", "costIfTurned", "(I)I"⟩) ∈ WA := wa_q tbl_9 176 rfl rfl
theorem q_t9_177 : (Cond.selects "SheetFolderModel" ⟨"SheetFolderModel", "costIfTurned", "(I)I"⟩ ⟨"SheetFolderModel", "costIfTurned", "(I)I"⟩) ∈ WA := wa_q tbl_9 177 rfl rfl
theorem q_t9_178 : (Cond.code ⟨"SheetFolderModel", "costIfTurned", "(I)I"⟩ prog_9_method_124_code 3 (some .int)) ∈ WA := wa_q tbl_9 178 rfl rfl
theorem q_t9_180 : (Cond.instanceMethod ⟨"SheetFolderModel", "fold", "(II)I"⟩) ∈ WA := wa_q tbl_9 180 rfl rfl
theorem q_t9_181 : (Cond.selects "SheetFolderModel" ⟨"SheetFolderModel", "fold", "(II)I"⟩ ⟨"SheetFolderModel", "fold", "(II)I"⟩) ∈ WA := wa_q tbl_9 181 rfl rfl
theorem q_t9_182 : (Cond.code ⟨"SheetFolderModel", "fold", "(II)I"⟩ prog_9_method_126_code 5 (some .int)) ∈ WA := wa_q tbl_9 182 rfl rfl
theorem q_t9_183 : (Cond.methodLink "SheetFolderModel" 413 ⟨"SheetFolderModel", "good", "(ZZZ)Z"⟩) ∈ WA := wa_q tbl_9 183 rfl rfl
theorem q_t9_185 : (Cond.instanceMethod ⟨"SheetFolderModel", "good", "(ZZZ)Z"⟩) ∈ WA := wa_q tbl_9 185 rfl rfl
theorem q_t9_186 : (Cond.code ⟨"SheetFolderModel", "good", "(ZZZ)Z"⟩ prog_9_method_6_code 4 (some .boolean)) ∈ WA := wa_q tbl_9 186 rfl rfl
theorem q_t9_187 : (Cond.methodLink "SheetFolderModel" 416 ⟨"SheetFolderModel", "foldNow", "(II)I"⟩) ∈ WA := wa_q tbl_9 187 rfl rfl
theorem q_t9_189 : (Cond.instanceMethod ⟨"SheetFolderModel", "foldNow", "(II)I"⟩) ∈ WA := wa_q tbl_9 189 rfl rfl
theorem q_t9_190 : (Cond.code ⟨"SheetFolderModel", "foldNow", "(II)I"⟩ prog_9_method_125_code 6 (some .int)) ∈ WA := wa_q tbl_9 190 rfl rfl
theorem q_t9_191 : (Cond.methodLink "SheetFolderModel" 410 ⟨"SheetFolderModel", "remember", "()V"⟩) ∈ WA := wa_q tbl_9 191 rfl rfl
theorem q_t9_193 : (Cond.instanceMethod ⟨"SheetFolderModel", "remember", "()V"⟩) ∈ WA := wa_q tbl_9 193 rfl rfl
theorem q_t9_194 : (Cond.code ⟨"SheetFolderModel", "remember", "()V"⟩ prog_9_method_9_code 2 none) ∈ WA := wa_q tbl_9 194 rfl rfl
theorem q_t9_196 : (Cond.instanceMethod ⟨"SheetFolderModel", "foldNext", "()I"⟩) ∈ WA := wa_q tbl_9 196 rfl rfl
theorem q_t9_197 : (Cond.selects "SheetFolderModel" ⟨"SheetFolderModel", "foldNext", "()I"⟩ ⟨"SheetFolderModel", "foldNext", "()I"⟩) ∈ WA := wa_q tbl_9 197 rfl rfl
theorem q_t9_198 : (Cond.code ⟨"SheetFolderModel", "foldNext", "()I"⟩ prog_9_method_127_code 3 (some .int)) ∈ WA := wa_q tbl_9 198 rfl rfl
theorem q_t9_200 : (Cond.instanceMethod ⟨"SheetFolderModel", "unfold", "()I"⟩) ∈ WA := wa_q tbl_9 200 rfl rfl
theorem q_t9_201 : (Cond.selects "SheetFolderModel" ⟨"SheetFolderModel", "unfold", "()I"⟩ ⟨"SheetFolderModel", "unfold", "()I"⟩) ∈ WA := wa_q tbl_9 201 rfl rfl
theorem q_t9_202 : (Cond.code ⟨"SheetFolderModel", "unfold", "()I"⟩ prog_9_method_128_code 3 (some .int)) ∈ WA := wa_q tbl_9 202 rfl rfl
theorem q_t9_204 : (Cond.instanceMethod ⟨"SheetFolderModel", "setLeg", "(II)I"⟩) ∈ WA := wa_q tbl_9 204 rfl rfl
theorem q_t9_205 : (Cond.selects "SheetFolderModel" ⟨"SheetFolderModel", "setLeg", "(II)I"⟩ ⟨"SheetFolderModel", "setLeg", "(II)I"⟩) ∈ WA := wa_q tbl_9 205 rfl rfl
theorem q_t9_206 : (Cond.code ⟨"SheetFolderModel", "setLeg", "(II)I"⟩ prog_9_method_130_code 3 (some .int)) ∈ WA := wa_q tbl_9 206 rfl rfl
theorem q_t9_207 : (Cond.constantLong "SheetFolderModel" 419 9999) ∈ WA := wa_q tbl_9 207 rfl rfl
theorem q_t9_208 : (Cond.methodLink "SheetFolderModel" 421 ⟨"SheetFolderModel", "set", "(II)I"⟩) ∈ WA := wa_q tbl_9 208 rfl rfl
theorem q_t9_210 : (Cond.instanceMethod ⟨"SheetFolderModel", "set", "(II)I"⟩) ∈ WA := wa_q tbl_9 210 rfl rfl
theorem q_t9_211 : (Cond.code ⟨"SheetFolderModel", "set", "(II)I"⟩ prog_9_method_129_code 4 (some .int)) ∈ WA := wa_q tbl_9 211 rfl rfl
theorem q_t9_213 : (Cond.instanceMethod ⟨"SheetFolderModel", "setDirection", "(IZ)Z"⟩) ∈ WA := wa_q tbl_9 213 rfl rfl
theorem q_t9_214 : (Cond.selects "SheetFolderModel" ⟨"SheetFolderModel", "setDirection", "(IZ)Z"⟩ ⟨"SheetFolderModel", "setDirection", "(IZ)Z"⟩) ∈ WA := wa_q tbl_9 214 rfl rfl
theorem q_t9_215 : (Cond.code ⟨"SheetFolderModel", "setDirection", "(IZ)Z"⟩ prog_9_method_131_code 3 (some .boolean)) ∈ WA := wa_q tbl_9 215 rfl rfl
theorem q_t9_217 : (Cond.instanceMethod ⟨"SheetFolderModel", "setTool", "(III)I"⟩) ∈ WA := wa_q tbl_9 217 rfl rfl
theorem q_t9_218 : (Cond.selects "SheetFolderModel" ⟨"SheetFolderModel", "setTool", "(III)I"⟩ ⟨"SheetFolderModel", "setTool", "(III)I"⟩) ∈ WA := wa_q tbl_9 218 rfl rfl
theorem q_t9_219 : (Cond.code ⟨"SheetFolderModel", "setTool", "(III)I"⟩ prog_9_method_133_code 5 (some .int)) ∈ WA := wa_q tbl_9 219 rfl rfl
theorem q_t9_220 : (Cond.methodLink "SheetFolderModel" 424 ⟨"SheetFolderModel", "areTold", "(III)Z"⟩) ∈ WA := wa_q tbl_9 220 rfl rfl
theorem q_t9_221 : (Cond.static ⟨"SheetFolderModel", "areTold", "(III)Z"⟩) ∈ WA := wa_q tbl_9 221 rfl rfl
theorem q_t9_222 : (Cond.code ⟨"SheetFolderModel", "areTold", "(III)Z"⟩ prog_9_method_132_code 3 (some .boolean)) ∈ WA := wa_q tbl_9 222 rfl rfl
theorem q_t9_224 : (Cond.instanceMethod ⟨"SheetFolderModel", "setSheet", "(III)I"⟩) ∈ WA := wa_q tbl_9 224 rfl rfl
theorem q_t9_225 : (Cond.selects "SheetFolderModel" ⟨"SheetFolderModel", "setSheet", "(III)I"⟩ ⟨"SheetFolderModel", "setSheet", "(III)I"⟩) ∈ WA := wa_q tbl_9 225 rfl rfl
theorem q_t9_226 : (Cond.code ⟨"SheetFolderModel", "setSheet", "(III)I"⟩ prog_9_method_134_code 5 (some .int)) ∈ WA := wa_q tbl_9 226 rfl rfl
theorem q_t9_227 : (Cond.constantLong "SheetFolderModel" 427 60) ∈ WA := wa_q tbl_9 227 rfl rfl
theorem q_t9_228 : (Cond.constantLong "SheetFolderModel" 429 200) ∈ WA := wa_q tbl_9 228 rfl rfl
theorem q_t9_229 : (Cond.constantLong "SheetFolderModel" 431 100) ∈ WA := wa_q tbl_9 229 rfl rfl
theorem q_t9_231 : (Cond.instanceMethod ⟨"SheetFolderModel", "setCost", "(III)I"⟩) ∈ WA := wa_q tbl_9 231 rfl rfl
theorem q_t9_232 : (Cond.selects "SheetFolderModel" ⟨"SheetFolderModel", "setCost", "(III)I"⟩ ⟨"SheetFolderModel", "setCost", "(III)I"⟩) ∈ WA := wa_q tbl_9 232 rfl rfl
theorem q_t9_233 : (Cond.code ⟨"SheetFolderModel", "setCost", "(III)I"⟩ prog_9_method_135_code 5 (some .int)) ∈ WA := wa_q tbl_9 233 rfl rfl
theorem q_t9_234 : (Cond.constantLong "SheetFolderModel" 433 99) ∈ WA := wa_q tbl_9 234 rfl rfl
theorem q_t9_236 : (Cond.instanceMethod ⟨"SheetFolderModel", "write", "()I"⟩) ∈ WA := wa_q tbl_9 236 rfl rfl
theorem q_t9_237 : (Cond.selects "SheetFolderModel" ⟨"SheetFolderModel", "write", "()I"⟩ ⟨"SheetFolderModel", "write", "()I"⟩) ∈ WA := wa_q tbl_9 237 rfl rfl
theorem q_t9_238 : (Cond.code ⟨"SheetFolderModel", "write", "()I"⟩ prog_9_method_140_code 2 (some .int)) ∈ WA := wa_q tbl_9 238 rfl rfl
theorem q_t9_239 : (Cond.methodLink "SheetFolderModel" 443 ⟨"SheetFolderModel", "putNumber", "(I)V"⟩) ∈ WA := wa_q tbl_9 239 rfl rfl
end
/-! part 10.help -/
section
/-! at a program counter, over any world that holds the memory -/
def At (p : Program) (l : Launch) (e : Env) (R : Room) (s : State) (m : MethodId) (args : Array Value) (below : List Frame) (meth : Method) (c : Code) (cells slots : Nat) (Q : State → Prop) (G : GT) (kd : Nat → Nat × Nat) (ad : Nat → Nat) (nL pc : Nat) (lv : List (Nat × Value)) (st : List Value) (M : Mem) : Prop :=
  ∀ (H : Heap) (locs : List Loc) (ls : Array Slot), Inv G kd ad s.heap M H locs → lv_has ls nL lv → W p l e R s m args below meth c H locs cells slots Q (F0 m pc ls st)
def nzb (y : Int32) : Bool := !(decide (y = 0))
theorem nz_b {y : Int32} (h : nzb y = true) : ¬ y = 0 := by
  simp only [nzb, Bool.not_eq_true', decide_eq_false_iff_not] at h; exact h
def n64b (r : UInt64) : Bool := decide (r &&& 0x7fffffffffffffff ≤ 0x7ff0000000000000)
theorem n64_b {r : UInt64} (h : n64b r = true) : vf_n64 r := by
  unfold vf_n64; exact of_decide_eq_true h
def isB (r : Int32) : Bool := decide (r = 0) || decide (r = 1)
theorem isB_n {r : Int32} (h : isB r = true) : narrow .boolean (.int r) = .int r := by
  simp only [isB, Bool.or_eq_true, decide_eq_true_eq] at h
  rcases h with rfl | rfl <;> rfl
def imax (a b : Int32) : Int32 := if a < b then b else a
def imin (a b : Int32) : Int32 := if b < a then b else a
theorem okb_lt {i : Int32} {n : Nat} (h : okb i n = true) : i.toNatClampNeg < n := by
  simp only [okb, Bool.and_eq_true, decide_eq_true_eq] at h; exact h.2
theorem ii_e {x v k : Int32} {n : Int} (h : v = x + k) (hk : Int32.ofInt n = k) : x + Int32.ofInt n = v := by rw [hk, h]
theorem by_c {c A : Prop} [Decidable c] (a : c → A) (b : ¬ c → A) : A := if h : c then a h else b h
theorem sw_ne {x k : Int32} {z : Int} (h : ¬ x = k) (hz : k.toInt = z) : x.toInt ≠ z := fun q => h (Int32.toInt_inj.mp (q.trans hz.symm))
theorem byt_b {M : Mem} {k : Nat} (h : decide (rd M k 2 = 1) = true) : (if M.1 k 2 = 1 then 1 else 4) = 1 := if_pos (of_decide_eq_true h)
def kPart (kd : Nat → Nat × Nat) (k : Nat) : Prop := kd k = (1, 0) ∧ kd (k + 1) = (10, 9) ∧ kd (k + 2) = (10, 10) ∧ kd (k + 3) = (10, 8) ∧ kd (k + 4) = (10, 8) ∧ kd (k + 5) = (10, 8) ∧ kd (k + 6) = (10, 8) ∧ kd (k + 7) = (10, 8)
def kPlaces (kd : Nat → Nat × Nat) (k : Nat) : Prop := kd k = (2, 0) ∧ kd (k + 1) = (10, 9) ∧ kd (k + 2) = (10, 9) ∧ kd (k + 3) = (10, 9) ∧ kd (k + 4) = (10, 9) ∧ kd (k + 5) = (10, 9) ∧ kd (k + 6) = (10, 9)
def kPlanner (kd : Nat → Nat × Nat) (k : Nat) : Prop := kd k = (3, 0) ∧ kd (k + 1) = (10, 8) ∧ kPlaces kd (k + 2) ∧ kPart kd (k + 9) ∧ kd (k + 17) = (10, 256) ∧ kd (k + 18) = (12, 256) ∧ kd (k + 19) = (13, 256) ∧ kd (k + 20) = (10, 4096) ∧ kd (k + 21) = (10, 4096) ∧ kd (k + 22) = (10, 4096)
def kHist (kd : Nat → Nat × Nat) (k : Nat) : Prop := kd k = (4, 0) ∧ kd (k + 1) = (8, 10) ∧ ∀ i, i < 10 → kPart kd (k + 1 + 1 + 8 * i)
def kReader (kd : Nat → Nat × Nat) (k : Nat) : Prop := kd k = (5, 0) ∧ kd (k + 1) = (10, 3) ∧ kd 1 = (11, 600)
def kRoot (kd : Nat → Nat × Nat) (k : Nat) : Prop := kd k = (6, 0) ∧ kd 1 = (11, 600) ∧ kReader kd 2 ∧ kPart kd 5 ∧ kPart kd 13 ∧ kHist kd 21 ∧ kPlaces kd 103 ∧ kPlanner kd 110
def kModel (kd : Nat → Nat × Nat) (k : Nat) : Prop := kd k = (7, 0) ∧ kd (k + 1) = (10, 86) ∧ kd (k + 2) = (10, 86) ∧ kd (k + 3) = (10, 86) ∧ kd (k + 4) = (10, 860) ∧ kd (k + 5) = (10, 600) ∧ kd (k + 6) = (10, 9) ∧ kd (k + 7) = (10, 9) ∧ kd (k + 8) = (10, 9) ∧ kd (k + 9) = (10, 9) ∧ kd (k + 10) = (12, 4096) ∧ kd (k + 11) = (10, 4096) ∧ kd (k + 12) = (13, 256) ∧ kd (k + 13) = (10, 4352) ∧ kd (k + 14) = (10, 4352) ∧ kd (k + 15) = (12, 256) ∧ kd (k + 16) = (10, 120)
section GH
variable {p : Program} {l : Launch} {e : Env} {R : Room} {s : State} {m : MethodId} {args : Array Value} {below : List Frame} {meth : Method} {c : Code} {H : Heap} {locs : List Loc} {cells slots : Nat} {Q : State → Prop}
variable {cc : ByteArray} {pc : Nat} {ls : Array Slot} {rest : List Value} {G : GT} {kd : Nat → Nat × Nat} {ad : Nat → Nat} {M : Mem} {H0 : Heap}
theorem lv_et {a b : Int32} (h : a = b) (k : W p l e R s m args below meth c H locs cells slots Q (F0 m pc ls (.int b :: rest))) : W p l e R s m args below meth c H locs cells slots Q (F0 m pc ls (.int a :: rest)) := by subst h; exact k
theorem lv_ei {a b : Int32} (h : b = a) (k : W p l e R s m args below meth c H locs cells slots Q (F0 m pc ls (.int b :: rest))) : W p l e R s m args below meth c H locs cells slots Q (F0 m pc ls (.int a :: rest)) := by subst h; exact k
theorem lv_ed {a b : UInt64} (h : b = a) (k : W p l e R s m args below meth c H locs cells slots Q (F0 m pc ls (.double b :: rest))) : W p l e R s m args below meth c H locs cells slots Q (F0 m pc ls (.double a :: rest)) := by subst h; exact k
theorem inW0 : ∀ w ∈ u_ws RX0 TX0 3, w ∈ WA := wa_f (List.forall_mem_cons.mpr ⟨q_t1_187, List.forall_mem_cons.mpr ⟨q_t1_189, List.forall_mem_cons.mpr ⟨q_t1_191, fun _ h => absurd h List.not_mem_nil⟩⟩⟩) _ rfl
theorem gg0_0 (hx : p.tables.exec = Jvm.exec) (hb : c.code = cc) (hts : ∀ w ∈ WA, w.before args s = true) {own : String} {index k : Nat} (hown : s.vm.findClass own = some m.cls) (hK : va_K G.1 vwCl (tyL G) s) (hI : Inv G kd ad H0 M H locs) (hk : kd k = (4, 0)) (hlink : Cond.fieldLink own index "SheetFolder$History" "before" "[LSheetFolder$Part;" ∈ WA) (hdg : decode cc pc = .ok (.getfield index, 3)) (kk : W p l e R s m args below meth c H locs cells slots Q (F0 m (pc + 3) ls (.ref (ad (k + 1)) :: rest))) : W p l e R s m args below meth c H locs cells slots Q (F0 m pc ls (.ref (ad k) :: rest)) :=
  g_get hx hb hts inW0 hown hK hI hk (by simp) rfl rfl 0 (by decide) ⟨rfl, rfl, rfl⟩ hlink rfl hdg kk
theorem gg0_1 (hx : p.tables.exec = Jvm.exec) (hb : c.code = cc) (hts : ∀ w ∈ WA, w.before args s = true) {own : String} {index k : Nat} (hown : s.vm.findClass own = some m.cls) (hK : va_K G.1 vwCl (tyL G) s) (hI : Inv G kd ad H0 M H locs) (hk : kd k = (4, 0)) (hlink : Cond.fieldLink own index "SheetFolder$History" "oldest" "I" ∈ WA) (hdg : decode cc pc = .ok (.getfield index, 3)) (kk : W p l e R s m args below meth c H locs cells slots Q (F0 m (pc + 3) ls (.int (rd M k 1) :: rest))) : W p l e R s m args below meth c H locs cells slots Q (F0 m pc ls (.ref (ad k) :: rest)) :=
  g_get hx hb hts inW0 hown hK hI hk (by simp) rfl rfl 1 (by decide) ⟨rfl, rfl, rfl⟩ hlink rfl hdg kk
theorem gp0_1 (hx : p.tables.exec = Jvm.exec) (hb : c.code = cc) (hts : ∀ w ∈ WA, w.before args s = true) {own : String} {index k : Nat} (hown : s.vm.findClass own = some m.cls) (hK : va_K G.1 vwCl (tyL G) s) (hap : Apt kd ad) (hI : Inv G kd ad H0 M H locs) (hk : kd k = (4, 0)) (hlink : Cond.fieldLink own index "SheetFolder$History" "oldest" "I" ∈ WA) {v : Int32} (hdg : decode cc pc = .ok (.putfield index, 3)) {M' : Mem} (hM : M' = wr M k 1 v) (kk : ∀ (H1 : Heap) (locs1 : List Loc), Inv G kd ad H0 M' H1 locs1 → W p l e R s m args below meth c H1 locs1 cells slots Q (F0 m (pc + 3) ls rest)) : W p l e R s m args below meth c H locs cells slots Q (F0 m pc ls (.int v :: .ref (ad k) :: rest)) := by
  subst hM
  exact g_put hx hb hts inW0 tyX0 tyX0_ok nmX0 hown hK hap hI hk (by simp) rfl rfl 1 (by decide) ⟨rfl, rfl, rfl⟩ hlink rfl (ty := .int) (by decide +kernel) rfl rfl (Nat.le_of_ble_eq_true rfl) (by rw [wr_s]; rfl) wr_o hdg kk
theorem gg0_2 (hx : p.tables.exec = Jvm.exec) (hb : c.code = cc) (hts : ∀ w ∈ WA, w.before args s = true) {own : String} {index k : Nat} (hown : s.vm.findClass own = some m.cls) (hK : va_K G.1 vwCl (tyL G) s) (hI : Inv G kd ad H0 M H locs) (hk : kd k = (4, 0)) (hlink : Cond.fieldLink own index "SheetFolder$History" "count" "I" ∈ WA) (hdg : decode cc pc = .ok (.getfield index, 3)) (kk : W p l e R s m args below meth c H locs cells slots Q (F0 m (pc + 3) ls (.int (rd M k 2) :: rest))) : W p l e R s m args below meth c H locs cells slots Q (F0 m pc ls (.ref (ad k) :: rest)) :=
  g_get hx hb hts inW0 hown hK hI hk (by simp) rfl rfl 2 (by decide) ⟨rfl, rfl, rfl⟩ hlink rfl hdg kk
theorem gp0_2 (hx : p.tables.exec = Jvm.exec) (hb : c.code = cc) (hts : ∀ w ∈ WA, w.before args s = true) {own : String} {index k : Nat} (hown : s.vm.findClass own = some m.cls) (hK : va_K G.1 vwCl (tyL G) s) (hap : Apt kd ad) (hI : Inv G kd ad H0 M H locs) (hk : kd k = (4, 0)) (hlink : Cond.fieldLink own index "SheetFolder$History" "count" "I" ∈ WA) {v : Int32} (hdg : decode cc pc = .ok (.putfield index, 3)) {M' : Mem} (hM : M' = wr M k 2 v) (kk : ∀ (H1 : Heap) (locs1 : List Loc), Inv G kd ad H0 M' H1 locs1 → W p l e R s m args below meth c H1 locs1 cells slots Q (F0 m (pc + 3) ls rest)) : W p l e R s m args below meth c H locs cells slots Q (F0 m pc ls (.int v :: .ref (ad k) :: rest)) := by
  subst hM
  exact g_put hx hb hts inW0 tyX0 tyX0_ok nmX0 hown hK hap hI hk (by simp) rfl rfl 2 (by decide) ⟨rfl, rfl, rfl⟩ hlink rfl (ty := .int) (by decide +kernel) rfl rfl (Nat.le_of_ble_eq_true rfl) (by rw [wr_s]; rfl) wr_o hdg kk
theorem inW1 : ∀ w ∈ u_ws RX1 TX1 18, w ∈ WA := wa_f (List.forall_mem_cons.mpr ⟨q_t1_137, List.forall_mem_cons.mpr ⟨q_t1_139, List.forall_mem_cons.mpr ⟨q_t1_141, List.forall_mem_cons.mpr ⟨q_t1_143, List.forall_mem_cons.mpr ⟨q_t1_145, List.forall_mem_cons.mpr ⟨q_t1_147, List.forall_mem_cons.mpr ⟨q_t1_149, List.forall_mem_cons.mpr ⟨q_t1_151, List.forall_mem_cons.mpr ⟨q_t1_153, List.forall_mem_cons.mpr ⟨q_t1_155, List.forall_mem_cons.mpr ⟨q_t1_157, List.forall_mem_cons.mpr ⟨q_t1_159, List.forall_mem_cons.mpr ⟨q_t1_161, List.forall_mem_cons.mpr ⟨q_t1_163, List.forall_mem_cons.mpr ⟨q_t1_165, List.forall_mem_cons.mpr ⟨q_t1_167, List.forall_mem_cons.mpr ⟨q_t1_169, List.forall_mem_cons.mpr ⟨q_t1_171, fun _ h => absurd h List.not_mem_nil⟩⟩⟩⟩⟩⟩⟩⟩⟩⟩⟩⟩⟩⟩⟩⟩⟩⟩) _ rfl
theorem gg1_0 (hx : p.tables.exec = Jvm.exec) (hb : c.code = cc) (hts : ∀ w ∈ WA, w.before args s = true) {own : String} {index k : Nat} (hown : s.vm.findClass own = some m.cls) (hK : va_K G.1 vwCl (tyL G) s) (hI : Inv G kd ad H0 M H locs) (hk : kd k = (1, 0)) (hlink : Cond.fieldLink own index "SheetFolder$Part" "legCount" "I" ∈ WA) (hdg : decode cc pc = .ok (.getfield index, 3)) (kk : W p l e R s m args below meth c H locs cells slots Q (F0 m (pc + 3) ls (.int (rd M k 0) :: rest))) : W p l e R s m args below meth c H locs cells slots Q (F0 m pc ls (.ref (ad k) :: rest)) :=
  g_get hx hb hts inW1 hown hK hI hk (by simp) rfl rfl 0 (by decide) ⟨rfl, rfl, rfl⟩ hlink rfl hdg kk
theorem gp1_0 (hx : p.tables.exec = Jvm.exec) (hb : c.code = cc) (hts : ∀ w ∈ WA, w.before args s = true) {own : String} {index k : Nat} (hown : s.vm.findClass own = some m.cls) (hK : va_K G.1 vwCl (tyL G) s) (hap : Apt kd ad) (hI : Inv G kd ad H0 M H locs) (hk : kd k = (1, 0)) (hlink : Cond.fieldLink own index "SheetFolder$Part" "legCount" "I" ∈ WA) {v : Int32} (hdg : decode cc pc = .ok (.putfield index, 3)) {M' : Mem} (hM : M' = wr M k 0 v) (kk : ∀ (H1 : Heap) (locs1 : List Loc), Inv G kd ad H0 M' H1 locs1 → W p l e R s m args below meth c H1 locs1 cells slots Q (F0 m (pc + 3) ls rest)) : W p l e R s m args below meth c H locs cells slots Q (F0 m pc ls (.int v :: .ref (ad k) :: rest)) := by
  subst hM
  exact g_put hx hb hts inW1 tyX1 tyX1_ok nmX1 hown hK hap hI hk (by simp) rfl rfl 0 (by decide) ⟨rfl, rfl, rfl⟩ hlink rfl (ty := .int) (by decide +kernel) rfl rfl (Nat.le_of_ble_eq_true rfl) (by rw [wr_s]; rfl) wr_o hdg kk
theorem gg1_1 (hx : p.tables.exec = Jvm.exec) (hb : c.code = cc) (hts : ∀ w ∈ WA, w.before args s = true) {own : String} {index k : Nat} (hown : s.vm.findClass own = some m.cls) (hK : va_K G.1 vwCl (tyL G) s) (hI : Inv G kd ad H0 M H locs) (hk : kd k = (1, 0)) (hlink : Cond.fieldLink own index "SheetFolder$Part" "legLengths" "[I" ∈ WA) (hdg : decode cc pc = .ok (.getfield index, 3)) (kk : W p l e R s m args below meth c H locs cells slots Q (F0 m (pc + 3) ls (.ref (ad (k + 1)) :: rest))) : W p l e R s m args below meth c H locs cells slots Q (F0 m pc ls (.ref (ad k) :: rest)) :=
  g_get hx hb hts inW1 hown hK hI hk (by simp) rfl rfl 1 (by decide) ⟨rfl, rfl, rfl⟩ hlink rfl hdg kk
theorem gg1_2 (hx : p.tables.exec = Jvm.exec) (hb : c.code = cc) (hts : ∀ w ∈ WA, w.before args s = true) {own : String} {index k : Nat} (hown : s.vm.findClass own = some m.cls) (hK : va_K G.1 vwCl (tyL G) s) (hI : Inv G kd ad H0 M H locs) (hk : kd k = (1, 0)) (hlink : Cond.fieldLink own index "SheetFolder$Part" "upBits" "I" ∈ WA) (hdg : decode cc pc = .ok (.getfield index, 3)) (kk : W p l e R s m args below meth c H locs cells slots Q (F0 m (pc + 3) ls (.int (rd M k 2) :: rest))) : W p l e R s m args below meth c H locs cells slots Q (F0 m pc ls (.ref (ad k) :: rest)) :=
  g_get hx hb hts inW1 hown hK hI hk (by simp) rfl rfl 2 (by decide) ⟨rfl, rfl, rfl⟩ hlink rfl hdg kk
theorem gp1_2 (hx : p.tables.exec = Jvm.exec) (hb : c.code = cc) (hts : ∀ w ∈ WA, w.before args s = true) {own : String} {index k : Nat} (hown : s.vm.findClass own = some m.cls) (hK : va_K G.1 vwCl (tyL G) s) (hap : Apt kd ad) (hI : Inv G kd ad H0 M H locs) (hk : kd k = (1, 0)) (hlink : Cond.fieldLink own index "SheetFolder$Part" "upBits" "I" ∈ WA) {v : Int32} (hdg : decode cc pc = .ok (.putfield index, 3)) {M' : Mem} (hM : M' = wr M k 2 v) (kk : ∀ (H1 : Heap) (locs1 : List Loc), Inv G kd ad H0 M' H1 locs1 → W p l e R s m args below meth c H1 locs1 cells slots Q (F0 m (pc + 3) ls rest)) : W p l e R s m args below meth c H locs cells slots Q (F0 m pc ls (.int v :: .ref (ad k) :: rest)) := by
  subst hM
  exact g_put hx hb hts inW1 tyX1 tyX1_ok nmX1 hown hK hap hI hk (by simp) rfl rfl 2 (by decide) ⟨rfl, rfl, rfl⟩ hlink rfl (ty := .int) (by decide +kernel) rfl rfl (Nat.le_of_ble_eq_true rfl) (by rw [wr_s]; rfl) wr_o hdg kk
theorem gg1_3 (hx : p.tables.exec = Jvm.exec) (hb : c.code = cc) (hts : ∀ w ∈ WA, w.before args s = true) {own : String} {index k : Nat} (hown : s.vm.findClass own = some m.cls) (hK : va_K G.1 vwCl (tyL G) s) (hI : Inv G kd ad H0 M H locs) (hk : kd k = (1, 0)) (hlink : Cond.fieldLink own index "SheetFolder$Part" "thickness" "I" ∈ WA) (hdg : decode cc pc = .ok (.getfield index, 3)) (kk : W p l e R s m args below meth c H locs cells slots Q (F0 m (pc + 3) ls (.int (rd M k 3) :: rest))) : W p l e R s m args below meth c H locs cells slots Q (F0 m pc ls (.ref (ad k) :: rest)) :=
  g_get hx hb hts inW1 hown hK hI hk (by simp) rfl rfl 3 (by decide) ⟨rfl, rfl, rfl⟩ hlink rfl hdg kk
theorem gp1_3 (hx : p.tables.exec = Jvm.exec) (hb : c.code = cc) (hts : ∀ w ∈ WA, w.before args s = true) {own : String} {index k : Nat} (hown : s.vm.findClass own = some m.cls) (hK : va_K G.1 vwCl (tyL G) s) (hap : Apt kd ad) (hI : Inv G kd ad H0 M H locs) (hk : kd k = (1, 0)) (hlink : Cond.fieldLink own index "SheetFolder$Part" "thickness" "I" ∈ WA) {v : Int32} (hdg : decode cc pc = .ok (.putfield index, 3)) {M' : Mem} (hM : M' = wr M k 3 v) (kk : ∀ (H1 : Heap) (locs1 : List Loc), Inv G kd ad H0 M' H1 locs1 → W p l e R s m args below meth c H1 locs1 cells slots Q (F0 m (pc + 3) ls rest)) : W p l e R s m args below meth c H locs cells slots Q (F0 m pc ls (.int v :: .ref (ad k) :: rest)) := by
  subst hM
  exact g_put hx hb hts inW1 tyX1 tyX1_ok nmX1 hown hK hap hI hk (by simp) rfl rfl 3 (by decide) ⟨rfl, rfl, rfl⟩ hlink rfl (ty := .int) (by decide +kernel) rfl rfl (Nat.le_of_ble_eq_true rfl) (by rw [wr_s]; rfl) wr_o hdg kk
theorem gg1_4 (hx : p.tables.exec = Jvm.exec) (hb : c.code = cc) (hts : ∀ w ∈ WA, w.before args s = true) {own : String} {index k : Nat} (hown : s.vm.findClass own = some m.cls) (hK : va_K G.1 vwCl (tyL G) s) (hI : Inv G kd ad H0 M H locs) (hk : kd k = (1, 0)) (hlink : Cond.fieldLink own index "SheetFolder$Part" "radius" "I" ∈ WA) (hdg : decode cc pc = .ok (.getfield index, 3)) (kk : W p l e R s m args below meth c H locs cells slots Q (F0 m (pc + 3) ls (.int (rd M k 4) :: rest))) : W p l e R s m args below meth c H locs cells slots Q (F0 m pc ls (.ref (ad k) :: rest)) :=
  g_get hx hb hts inW1 hown hK hI hk (by simp) rfl rfl 4 (by decide) ⟨rfl, rfl, rfl⟩ hlink rfl hdg kk
theorem gp1_4 (hx : p.tables.exec = Jvm.exec) (hb : c.code = cc) (hts : ∀ w ∈ WA, w.before args s = true) {own : String} {index k : Nat} (hown : s.vm.findClass own = some m.cls) (hK : va_K G.1 vwCl (tyL G) s) (hap : Apt kd ad) (hI : Inv G kd ad H0 M H locs) (hk : kd k = (1, 0)) (hlink : Cond.fieldLink own index "SheetFolder$Part" "radius" "I" ∈ WA) {v : Int32} (hdg : decode cc pc = .ok (.putfield index, 3)) {M' : Mem} (hM : M' = wr M k 4 v) (kk : ∀ (H1 : Heap) (locs1 : List Loc), Inv G kd ad H0 M' H1 locs1 → W p l e R s m args below meth c H1 locs1 cells slots Q (F0 m (pc + 3) ls rest)) : W p l e R s m args below meth c H locs cells slots Q (F0 m pc ls (.int v :: .ref (ad k) :: rest)) := by
  subst hM
  exact g_put hx hb hts inW1 tyX1 tyX1_ok nmX1 hown hK hap hI hk (by simp) rfl rfl 4 (by decide) ⟨rfl, rfl, rfl⟩ hlink rfl (ty := .int) (by decide +kernel) rfl rfl (Nat.le_of_ble_eq_true rfl) (by rw [wr_s]; rfl) wr_o hdg kk
theorem gg1_5 (hx : p.tables.exec = Jvm.exec) (hb : c.code = cc) (hts : ∀ w ∈ WA, w.before args s = true) {own : String} {index k : Nat} (hown : s.vm.findClass own = some m.cls) (hK : va_K G.1 vwCl (tyL G) s) (hI : Inv G kd ad H0 M H locs) (hk : kd k = (1, 0)) (hlink : Cond.fieldLink own index "SheetFolder$Part" "neutral" "I" ∈ WA) (hdg : decode cc pc = .ok (.getfield index, 3)) (kk : W p l e R s m args below meth c H locs cells slots Q (F0 m (pc + 3) ls (.int (rd M k 5) :: rest))) : W p l e R s m args below meth c H locs cells slots Q (F0 m pc ls (.ref (ad k) :: rest)) :=
  g_get hx hb hts inW1 hown hK hI hk (by simp) rfl rfl 5 (by decide) ⟨rfl, rfl, rfl⟩ hlink rfl hdg kk
theorem gp1_5 (hx : p.tables.exec = Jvm.exec) (hb : c.code = cc) (hts : ∀ w ∈ WA, w.before args s = true) {own : String} {index k : Nat} (hown : s.vm.findClass own = some m.cls) (hK : va_K G.1 vwCl (tyL G) s) (hap : Apt kd ad) (hI : Inv G kd ad H0 M H locs) (hk : kd k = (1, 0)) (hlink : Cond.fieldLink own index "SheetFolder$Part" "neutral" "I" ∈ WA) {v : Int32} (hdg : decode cc pc = .ok (.putfield index, 3)) {M' : Mem} (hM : M' = wr M k 5 v) (kk : ∀ (H1 : Heap) (locs1 : List Loc), Inv G kd ad H0 M' H1 locs1 → W p l e R s m args below meth c H1 locs1 cells slots Q (F0 m (pc + 3) ls rest)) : W p l e R s m args below meth c H locs cells slots Q (F0 m pc ls (.int v :: .ref (ad k) :: rest)) := by
  subst hM
  exact g_put hx hb hts inW1 tyX1 tyX1_ok nmX1 hown hK hap hI hk (by simp) rfl rfl 5 (by decide) ⟨rfl, rfl, rfl⟩ hlink rfl (ty := .int) (by decide +kernel) rfl rfl (Nat.le_of_ble_eq_true rfl) (by rw [wr_s]; rfl) wr_o hdg kk
theorem gg1_6 (hx : p.tables.exec = Jvm.exec) (hb : c.code = cc) (hts : ∀ w ∈ WA, w.before args s = true) {own : String} {index k : Nat} (hown : s.vm.findClass own = some m.cls) (hK : va_K G.1 vwCl (tyL G) s) (hI : Inv G kd ad H0 M H locs) (hk : kd k = (1, 0)) (hlink : Cond.fieldLink own index "SheetFolder$Part" "toolNumbers" "[I" ∈ WA) (hdg : decode cc pc = .ok (.getfield index, 3)) (kk : W p l e R s m args below meth c H locs cells slots Q (F0 m (pc + 3) ls (.ref (ad (k + 2)) :: rest))) : W p l e R s m args below meth c H locs cells slots Q (F0 m pc ls (.ref (ad k) :: rest)) :=
  g_get hx hb hts inW1 hown hK hI hk (by simp) rfl rfl 6 (by decide) ⟨rfl, rfl, rfl⟩ hlink rfl hdg kk
theorem gg1_7 (hx : p.tables.exec = Jvm.exec) (hb : c.code = cc) (hts : ∀ w ∈ WA, w.before args s = true) {own : String} {index k : Nat} (hown : s.vm.findClass own = some m.cls) (hK : va_K G.1 vwCl (tyL G) s) (hI : Inv G kd ad H0 M H locs) (hk : kd k = (1, 0)) (hlink : Cond.fieldLink own index "SheetFolder$Part" "flipCost" "I" ∈ WA) (hdg : decode cc pc = .ok (.getfield index, 3)) (kk : W p l e R s m args below meth c H locs cells slots Q (F0 m (pc + 3) ls (.int (rd M k 7) :: rest))) : W p l e R s m args below meth c H locs cells slots Q (F0 m pc ls (.ref (ad k) :: rest)) :=
  g_get hx hb hts inW1 hown hK hI hk (by simp) rfl rfl 7 (by decide) ⟨rfl, rfl, rfl⟩ hlink rfl hdg kk
theorem gp1_7 (hx : p.tables.exec = Jvm.exec) (hb : c.code = cc) (hts : ∀ w ∈ WA, w.before args s = true) {own : String} {index k : Nat} (hown : s.vm.findClass own = some m.cls) (hK : va_K G.1 vwCl (tyL G) s) (hap : Apt kd ad) (hI : Inv G kd ad H0 M H locs) (hk : kd k = (1, 0)) (hlink : Cond.fieldLink own index "SheetFolder$Part" "flipCost" "I" ∈ WA) {v : Int32} (hdg : decode cc pc = .ok (.putfield index, 3)) {M' : Mem} (hM : M' = wr M k 7 v) (kk : ∀ (H1 : Heap) (locs1 : List Loc), Inv G kd ad H0 M' H1 locs1 → W p l e R s m args below meth c H1 locs1 cells slots Q (F0 m (pc + 3) ls rest)) : W p l e R s m args below meth c H locs cells slots Q (F0 m pc ls (.int v :: .ref (ad k) :: rest)) := by
  subst hM
  exact g_put hx hb hts inW1 tyX1 tyX1_ok nmX1 hown hK hap hI hk (by simp) rfl rfl 7 (by decide) ⟨rfl, rfl, rfl⟩ hlink rfl (ty := .int) (by decide +kernel) rfl rfl (Nat.le_of_ble_eq_true rfl) (by rw [wr_s]; rfl) wr_o hdg kk
theorem gg1_8 (hx : p.tables.exec = Jvm.exec) (hb : c.code = cc) (hts : ∀ w ∈ WA, w.before args s = true) {own : String} {index k : Nat} (hown : s.vm.findClass own = some m.cls) (hK : va_K G.1 vwCl (tyL G) s) (hI : Inv G kd ad H0 M H locs) (hk : kd k = (1, 0)) (hlink : Cond.fieldLink own index "SheetFolder$Part" "turnCost" "I" ∈ WA) (hdg : decode cc pc = .ok (.getfield index, 3)) (kk : W p l e R s m args below meth c H locs cells slots Q (F0 m (pc + 3) ls (.int (rd M k 8) :: rest))) : W p l e R s m args below meth c H locs cells slots Q (F0 m pc ls (.ref (ad k) :: rest)) :=
  g_get hx hb hts inW1 hown hK hI hk (by simp) rfl rfl 8 (by decide) ⟨rfl, rfl, rfl⟩ hlink rfl hdg kk
theorem gp1_8 (hx : p.tables.exec = Jvm.exec) (hb : c.code = cc) (hts : ∀ w ∈ WA, w.before args s = true) {own : String} {index k : Nat} (hown : s.vm.findClass own = some m.cls) (hK : va_K G.1 vwCl (tyL G) s) (hap : Apt kd ad) (hI : Inv G kd ad H0 M H locs) (hk : kd k = (1, 0)) (hlink : Cond.fieldLink own index "SheetFolder$Part" "turnCost" "I" ∈ WA) {v : Int32} (hdg : decode cc pc = .ok (.putfield index, 3)) {M' : Mem} (hM : M' = wr M k 8 v) (kk : ∀ (H1 : Heap) (locs1 : List Loc), Inv G kd ad H0 M' H1 locs1 → W p l e R s m args below meth c H1 locs1 cells slots Q (F0 m (pc + 3) ls rest)) : W p l e R s m args below meth c H locs cells slots Q (F0 m pc ls (.int v :: .ref (ad k) :: rest)) := by
  subst hM
  exact g_put hx hb hts inW1 tyX1 tyX1_ok nmX1 hown hK hap hI hk (by simp) rfl rfl 8 (by decide) ⟨rfl, rfl, rfl⟩ hlink rfl (ty := .int) (by decide +kernel) rfl rfl (Nat.le_of_ble_eq_true rfl) (by rw [wr_s]; rfl) wr_o hdg kk
theorem gg1_9 (hx : p.tables.exec = Jvm.exec) (hb : c.code = cc) (hts : ∀ w ∈ WA, w.before args s = true) {own : String} {index k : Nat} (hown : s.vm.findClass own = some m.cls) (hK : va_K G.1 vwCl (tyL G) s) (hI : Inv G kd ad H0 M H locs) (hk : kd k = (1, 0)) (hlink : Cond.fieldLink own index "SheetFolder$Part" "moveCost" "I" ∈ WA) (hdg : decode cc pc = .ok (.getfield index, 3)) (kk : W p l e R s m args below meth c H locs cells slots Q (F0 m (pc + 3) ls (.int (rd M k 9) :: rest))) : W p l e R s m args below meth c H locs cells slots Q (F0 m pc ls (.ref (ad k) :: rest)) :=
  g_get hx hb hts inW1 hown hK hI hk (by simp) rfl rfl 9 (by decide) ⟨rfl, rfl, rfl⟩ hlink rfl hdg kk
theorem gp1_9 (hx : p.tables.exec = Jvm.exec) (hb : c.code = cc) (hts : ∀ w ∈ WA, w.before args s = true) {own : String} {index k : Nat} (hown : s.vm.findClass own = some m.cls) (hK : va_K G.1 vwCl (tyL G) s) (hap : Apt kd ad) (hI : Inv G kd ad H0 M H locs) (hk : kd k = (1, 0)) (hlink : Cond.fieldLink own index "SheetFolder$Part" "moveCost" "I" ∈ WA) {v : Int32} (hdg : decode cc pc = .ok (.putfield index, 3)) {M' : Mem} (hM : M' = wr M k 9 v) (kk : ∀ (H1 : Heap) (locs1 : List Loc), Inv G kd ad H0 M' H1 locs1 → W p l e R s m args below meth c H1 locs1 cells slots Q (F0 m (pc + 3) ls rest)) : W p l e R s m args below meth c H locs cells slots Q (F0 m pc ls (.int v :: .ref (ad k) :: rest)) := by
  subst hM
  exact g_put hx hb hts inW1 tyX1 tyX1_ok nmX1 hown hK hap hI hk (by simp) rfl rfl 9 (by decide) ⟨rfl, rfl, rfl⟩ hlink rfl (ty := .int) (by decide +kernel) rfl rfl (Nat.le_of_ble_eq_true rfl) (by rw [wr_s]; rfl) wr_o hdg kk
theorem gg1_10 (hx : p.tables.exec = Jvm.exec) (hb : c.code = cc) (hts : ∀ w ∈ WA, w.before args s = true) {own : String} {index k : Nat} (hown : s.vm.findClass own = some m.cls) (hK : va_K G.1 vwCl (tyL G) s) (hI : Inv G kd ad H0 M H locs) (hk : kd k = (1, 0)) (hlink : Cond.fieldLink own index "SheetFolder$Part" "backCount" "I" ∈ WA) (hdg : decode cc pc = .ok (.getfield index, 3)) (kk : W p l e R s m args below meth c H locs cells slots Q (F0 m (pc + 3) ls (.int (rd M k 10) :: rest))) : W p l e R s m args below meth c H locs cells slots Q (F0 m pc ls (.ref (ad k) :: rest)) :=
  g_get hx hb hts inW1 hown hK hI hk (by simp) rfl rfl 10 (by decide) ⟨rfl, rfl, rfl⟩ hlink rfl hdg kk
theorem gp1_10 (hx : p.tables.exec = Jvm.exec) (hb : c.code = cc) (hts : ∀ w ∈ WA, w.before args s = true) {own : String} {index k : Nat} (hown : s.vm.findClass own = some m.cls) (hK : va_K G.1 vwCl (tyL G) s) (hap : Apt kd ad) (hI : Inv G kd ad H0 M H locs) (hk : kd k = (1, 0)) (hlink : Cond.fieldLink own index "SheetFolder$Part" "backCount" "I" ∈ WA) {v : Int32} (hdg : decode cc pc = .ok (.putfield index, 3)) {M' : Mem} (hM : M' = wr M k 10 v) (kk : ∀ (H1 : Heap) (locs1 : List Loc), Inv G kd ad H0 M' H1 locs1 → W p l e R s m args below meth c H1 locs1 cells slots Q (F0 m (pc + 3) ls rest)) : W p l e R s m args below meth c H locs cells slots Q (F0 m pc ls (.int v :: .ref (ad k) :: rest)) := by
  subst hM
  exact g_put hx hb hts inW1 tyX1 tyX1_ok nmX1 hown hK hap hI hk (by simp) rfl rfl 10 (by decide) ⟨rfl, rfl, rfl⟩ hlink rfl (ty := .int) (by decide +kernel) rfl rfl (Nat.le_of_ble_eq_true rfl) (by rw [wr_s]; rfl) wr_o hdg kk
theorem gg1_11 (hx : p.tables.exec = Jvm.exec) (hb : c.code = cc) (hts : ∀ w ∈ WA, w.before args s = true) {own : String} {index k : Nat} (hown : s.vm.findClass own = some m.cls) (hK : va_K G.1 vwCl (tyL G) s) (hI : Inv G kd ad H0 M H locs) (hk : kd k = (1, 0)) (hlink : Cond.fieldLink own index "SheetFolder$Part" "backRatios" "[I" ∈ WA) (hdg : decode cc pc = .ok (.getfield index, 3)) (kk : W p l e R s m args below meth c H locs cells slots Q (F0 m (pc + 3) ls (.ref (ad (k + 3)) :: rest))) : W p l e R s m args below meth c H locs cells slots Q (F0 m pc ls (.ref (ad k) :: rest)) :=
  g_get hx hb hts inW1 hown hK hI hk (by simp) rfl rfl 11 (by decide) ⟨rfl, rfl, rfl⟩ hlink rfl hdg kk
theorem gg1_12 (hx : p.tables.exec = Jvm.exec) (hb : c.code = cc) (hts : ∀ w ∈ WA, w.before args s = true) {own : String} {index k : Nat} (hown : s.vm.findClass own = some m.cls) (hK : va_K G.1 vwCl (tyL G) s) (hI : Inv G kd ad H0 M H locs) (hk : kd k = (1, 0)) (hlink : Cond.fieldLink own index "SheetFolder$Part" "backAngles" "[I" ∈ WA) (hdg : decode cc pc = .ok (.getfield index, 3)) (kk : W p l e R s m args below meth c H locs cells slots Q (F0 m (pc + 3) ls (.ref (ad (k + 4)) :: rest))) : W p l e R s m args below meth c H locs cells slots Q (F0 m pc ls (.ref (ad k) :: rest)) :=
  g_get hx hb hts inW1 hown hK hI hk (by simp) rfl rfl 12 (by decide) ⟨rfl, rfl, rfl⟩ hlink rfl hdg kk
theorem gg1_13 (hx : p.tables.exec = Jvm.exec) (hb : c.code = cc) (hts : ∀ w ∈ WA, w.before args s = true) {own : String} {index k : Nat} (hown : s.vm.findClass own = some m.cls) (hK : va_K G.1 vwCl (tyL G) s) (hI : Inv G kd ad H0 M H locs) (hk : kd k = (1, 0)) (hlink : Cond.fieldLink own index "SheetFolder$Part" "madeBits" "I" ∈ WA) (hdg : decode cc pc = .ok (.getfield index, 3)) (kk : W p l e R s m args below meth c H locs cells slots Q (F0 m (pc + 3) ls (.int (rd M k 13) :: rest))) : W p l e R s m args below meth c H locs cells slots Q (F0 m pc ls (.ref (ad k) :: rest)) :=
  g_get hx hb hts inW1 hown hK hI hk (by simp) rfl rfl 13 (by decide) ⟨rfl, rfl, rfl⟩ hlink rfl hdg kk
theorem gp1_13 (hx : p.tables.exec = Jvm.exec) (hb : c.code = cc) (hts : ∀ w ∈ WA, w.before args s = true) {own : String} {index k : Nat} (hown : s.vm.findClass own = some m.cls) (hK : va_K G.1 vwCl (tyL G) s) (hap : Apt kd ad) (hI : Inv G kd ad H0 M H locs) (hk : kd k = (1, 0)) (hlink : Cond.fieldLink own index "SheetFolder$Part" "madeBits" "I" ∈ WA) {v : Int32} (hdg : decode cc pc = .ok (.putfield index, 3)) {M' : Mem} (hM : M' = wr M k 13 v) (kk : ∀ (H1 : Heap) (locs1 : List Loc), Inv G kd ad H0 M' H1 locs1 → W p l e R s m args below meth c H1 locs1 cells slots Q (F0 m (pc + 3) ls rest)) : W p l e R s m args below meth c H locs cells slots Q (F0 m pc ls (.int v :: .ref (ad k) :: rest)) := by
  subst hM
  exact g_put hx hb hts inW1 tyX1 tyX1_ok nmX1 hown hK hap hI hk (by simp) rfl rfl 13 (by decide) ⟨rfl, rfl, rfl⟩ hlink rfl (ty := .int) (by decide +kernel) rfl rfl (Nat.le_of_ble_eq_true rfl) (by rw [wr_s]; rfl) wr_o hdg kk
theorem gg1_14 (hx : p.tables.exec = Jvm.exec) (hb : c.code = cc) (hts : ∀ w ∈ WA, w.before args s = true) {own : String} {index k : Nat} (hown : s.vm.findClass own = some m.cls) (hK : va_K G.1 vwCl (tyL G) s) (hI : Inv G kd ad H0 M H locs) (hk : kd k = (1, 0)) (hlink : Cond.fieldLink own index "SheetFolder$Part" "stepCount" "I" ∈ WA) (hdg : decode cc pc = .ok (.getfield index, 3)) (kk : W p l e R s m args below meth c H locs cells slots Q (F0 m (pc + 3) ls (.int (rd M k 14) :: rest))) : W p l e R s m args below meth c H locs cells slots Q (F0 m pc ls (.ref (ad k) :: rest)) :=
  g_get hx hb hts inW1 hown hK hI hk (by simp) rfl rfl 14 (by decide) ⟨rfl, rfl, rfl⟩ hlink rfl hdg kk
theorem gp1_14 (hx : p.tables.exec = Jvm.exec) (hb : c.code = cc) (hts : ∀ w ∈ WA, w.before args s = true) {own : String} {index k : Nat} (hown : s.vm.findClass own = some m.cls) (hK : va_K G.1 vwCl (tyL G) s) (hap : Apt kd ad) (hI : Inv G kd ad H0 M H locs) (hk : kd k = (1, 0)) (hlink : Cond.fieldLink own index "SheetFolder$Part" "stepCount" "I" ∈ WA) {v : Int32} (hdg : decode cc pc = .ok (.putfield index, 3)) {M' : Mem} (hM : M' = wr M k 14 v) (kk : ∀ (H1 : Heap) (locs1 : List Loc), Inv G kd ad H0 M' H1 locs1 → W p l e R s m args below meth c H1 locs1 cells slots Q (F0 m (pc + 3) ls rest)) : W p l e R s m args below meth c H locs cells slots Q (F0 m pc ls (.int v :: .ref (ad k) :: rest)) := by
  subst hM
  exact g_put hx hb hts inW1 tyX1 tyX1_ok nmX1 hown hK hap hI hk (by simp) rfl rfl 14 (by decide) ⟨rfl, rfl, rfl⟩ hlink rfl (ty := .int) (by decide +kernel) rfl rfl (Nat.le_of_ble_eq_true rfl) (by rw [wr_s]; rfl) wr_o hdg kk
theorem gg1_15 (hx : p.tables.exec = Jvm.exec) (hb : c.code = cc) (hts : ∀ w ∈ WA, w.before args s = true) {own : String} {index k : Nat} (hown : s.vm.findClass own = some m.cls) (hK : va_K G.1 vwCl (tyL G) s) (hI : Inv G kd ad H0 M H locs) (hk : kd k = (1, 0)) (hlink : Cond.fieldLink own index "SheetFolder$Part" "stepCodes" "[I" ∈ WA) (hdg : decode cc pc = .ok (.getfield index, 3)) (kk : W p l e R s m args below meth c H locs cells slots Q (F0 m (pc + 3) ls (.ref (ad (k + 5)) :: rest))) : W p l e R s m args below meth c H locs cells slots Q (F0 m pc ls (.ref (ad k) :: rest)) :=
  g_get hx hb hts inW1 hown hK hI hk (by simp) rfl rfl 15 (by decide) ⟨rfl, rfl, rfl⟩ hlink rfl hdg kk
theorem gg1_16 (hx : p.tables.exec = Jvm.exec) (hb : c.code = cc) (hts : ∀ w ∈ WA, w.before args s = true) {own : String} {index k : Nat} (hown : s.vm.findClass own = some m.cls) (hK : va_K G.1 vwCl (tyL G) s) (hI : Inv G kd ad H0 M H locs) (hk : kd k = (1, 0)) (hlink : Cond.fieldLink own index "SheetFolder$Part" "stepGauges" "[I" ∈ WA) (hdg : decode cc pc = .ok (.getfield index, 3)) (kk : W p l e R s m args below meth c H locs cells slots Q (F0 m (pc + 3) ls (.ref (ad (k + 6)) :: rest))) : W p l e R s m args below meth c H locs cells slots Q (F0 m pc ls (.ref (ad k) :: rest)) :=
  g_get hx hb hts inW1 hown hK hI hk (by simp) rfl rfl 16 (by decide) ⟨rfl, rfl, rfl⟩ hlink rfl hdg kk
theorem gg1_17 (hx : p.tables.exec = Jvm.exec) (hb : c.code = cc) (hts : ∀ w ∈ WA, w.before args s = true) {own : String} {index k : Nat} (hown : s.vm.findClass own = some m.cls) (hK : va_K G.1 vwCl (tyL G) s) (hI : Inv G kd ad H0 M H locs) (hk : kd k = (1, 0)) (hlink : Cond.fieldLink own index "SheetFolder$Part" "stepCosts" "[I" ∈ WA) (hdg : decode cc pc = .ok (.getfield index, 3)) (kk : W p l e R s m args below meth c H locs cells slots Q (F0 m (pc + 3) ls (.ref (ad (k + 7)) :: rest))) : W p l e R s m args below meth c H locs cells slots Q (F0 m pc ls (.ref (ad k) :: rest)) :=
  g_get hx hb hts inW1 hown hK hI hk (by simp) rfl rfl 17 (by decide) ⟨rfl, rfl, rfl⟩ hlink rfl hdg kk
theorem inW2 : ∀ w ∈ u_ws RX2 TX2 9, w ∈ WA := wa_f (List.forall_mem_cons.mpr ⟨q_t1_211, List.forall_mem_cons.mpr ⟨q_t1_213, List.forall_mem_cons.mpr ⟨q_t1_215, List.forall_mem_cons.mpr ⟨q_t1_217, List.forall_mem_cons.mpr ⟨q_t1_219, List.forall_mem_cons.mpr ⟨q_t1_221, List.forall_mem_cons.mpr ⟨q_t1_223, List.forall_mem_cons.mpr ⟨q_t1_225, List.forall_mem_cons.mpr ⟨q_t1_227, fun _ h => absurd h List.not_mem_nil⟩⟩⟩⟩⟩⟩⟩⟩⟩) _ rfl
theorem gg2_0 (hx : p.tables.exec = Jvm.exec) (hb : c.code = cc) (hts : ∀ w ∈ WA, w.before args s = true) {own : String} {index k : Nat} (hown : s.vm.findClass own = some m.cls) (hK : va_K G.1 vwCl (tyL G) s) (hI : Inv G kd ad H0 M H locs) (hk : kd k = (2, 0)) (hlink : Cond.fieldLink own index "SheetFolder$Places" "farX" "[I" ∈ WA) (hdg : decode cc pc = .ok (.getfield index, 3)) (kk : W p l e R s m args below meth c H locs cells slots Q (F0 m (pc + 3) ls (.ref (ad (k + 1)) :: rest))) : W p l e R s m args below meth c H locs cells slots Q (F0 m pc ls (.ref (ad k) :: rest)) :=
  g_get hx hb hts inW2 hown hK hI hk (by simp) rfl rfl 0 (by decide) ⟨rfl, rfl, rfl⟩ hlink rfl hdg kk
theorem gg2_1 (hx : p.tables.exec = Jvm.exec) (hb : c.code = cc) (hts : ∀ w ∈ WA, w.before args s = true) {own : String} {index k : Nat} (hown : s.vm.findClass own = some m.cls) (hK : va_K G.1 vwCl (tyL G) s) (hI : Inv G kd ad H0 M H locs) (hk : kd k = (2, 0)) (hlink : Cond.fieldLink own index "SheetFolder$Places" "farY" "[I" ∈ WA) (hdg : decode cc pc = .ok (.getfield index, 3)) (kk : W p l e R s m args below meth c H locs cells slots Q (F0 m (pc + 3) ls (.ref (ad (k + 2)) :: rest))) : W p l e R s m args below meth c H locs cells slots Q (F0 m pc ls (.ref (ad k) :: rest)) :=
  g_get hx hb hts inW2 hown hK hI hk (by simp) rfl rfl 1 (by decide) ⟨rfl, rfl, rfl⟩ hlink rfl hdg kk
theorem gg2_2 (hx : p.tables.exec = Jvm.exec) (hb : c.code = cc) (hts : ∀ w ∈ WA, w.before args s = true) {own : String} {index k : Nat} (hown : s.vm.findClass own = some m.cls) (hK : va_K G.1 vwCl (tyL G) s) (hI : Inv G kd ad H0 M H locs) (hk : kd k = (2, 0)) (hlink : Cond.fieldLink own index "SheetFolder$Places" "leastX" "[I" ∈ WA) (hdg : decode cc pc = .ok (.getfield index, 3)) (kk : W p l e R s m args below meth c H locs cells slots Q (F0 m (pc + 3) ls (.ref (ad (k + 3)) :: rest))) : W p l e R s m args below meth c H locs cells slots Q (F0 m pc ls (.ref (ad k) :: rest)) :=
  g_get hx hb hts inW2 hown hK hI hk (by simp) rfl rfl 2 (by decide) ⟨rfl, rfl, rfl⟩ hlink rfl hdg kk
theorem gg2_3 (hx : p.tables.exec = Jvm.exec) (hb : c.code = cc) (hts : ∀ w ∈ WA, w.before args s = true) {own : String} {index k : Nat} (hown : s.vm.findClass own = some m.cls) (hK : va_K G.1 vwCl (tyL G) s) (hI : Inv G kd ad H0 M H locs) (hk : kd k = (2, 0)) (hlink : Cond.fieldLink own index "SheetFolder$Places" "mostX" "[I" ∈ WA) (hdg : decode cc pc = .ok (.getfield index, 3)) (kk : W p l e R s m args below meth c H locs cells slots Q (F0 m (pc + 3) ls (.ref (ad (k + 4)) :: rest))) : W p l e R s m args below meth c H locs cells slots Q (F0 m pc ls (.ref (ad k) :: rest)) :=
  g_get hx hb hts inW2 hown hK hI hk (by simp) rfl rfl 3 (by decide) ⟨rfl, rfl, rfl⟩ hlink rfl hdg kk
theorem gg2_4 (hx : p.tables.exec = Jvm.exec) (hb : c.code = cc) (hts : ∀ w ∈ WA, w.before args s = true) {own : String} {index k : Nat} (hown : s.vm.findClass own = some m.cls) (hK : va_K G.1 vwCl (tyL G) s) (hI : Inv G kd ad H0 M H locs) (hk : kd k = (2, 0)) (hlink : Cond.fieldLink own index "SheetFolder$Places" "leastY" "[I" ∈ WA) (hdg : decode cc pc = .ok (.getfield index, 3)) (kk : W p l e R s m args below meth c H locs cells slots Q (F0 m (pc + 3) ls (.ref (ad (k + 5)) :: rest))) : W p l e R s m args below meth c H locs cells slots Q (F0 m pc ls (.ref (ad k) :: rest)) :=
  g_get hx hb hts inW2 hown hK hI hk (by simp) rfl rfl 4 (by decide) ⟨rfl, rfl, rfl⟩ hlink rfl hdg kk
theorem gg2_5 (hx : p.tables.exec = Jvm.exec) (hb : c.code = cc) (hts : ∀ w ∈ WA, w.before args s = true) {own : String} {index k : Nat} (hown : s.vm.findClass own = some m.cls) (hK : va_K G.1 vwCl (tyL G) s) (hI : Inv G kd ad H0 M H locs) (hk : kd k = (2, 0)) (hlink : Cond.fieldLink own index "SheetFolder$Places" "mostY" "[I" ∈ WA) (hdg : decode cc pc = .ok (.getfield index, 3)) (kk : W p l e R s m args below meth c H locs cells slots Q (F0 m (pc + 3) ls (.ref (ad (k + 6)) :: rest))) : W p l e R s m args below meth c H locs cells slots Q (F0 m pc ls (.ref (ad k) :: rest)) :=
  g_get hx hb hts inW2 hown hK hI hk (by simp) rfl rfl 5 (by decide) ⟨rfl, rfl, rfl⟩ hlink rfl hdg kk
theorem gg2_6 (hx : p.tables.exec = Jvm.exec) (hb : c.code = cc) (hts : ∀ w ∈ WA, w.before args s = true) {own : String} {index k : Nat} (hown : s.vm.findClass own = some m.cls) (hK : va_K G.1 vwCl (tyL G) s) (hI : Inv G kd ad H0 M H locs) (hk : kd k = (2, 0)) (hlink : Cond.fieldLink own index "SheetFolder$Places" "legCount" "I" ∈ WA) (hdg : decode cc pc = .ok (.getfield index, 3)) (kk : W p l e R s m args below meth c H locs cells slots Q (F0 m (pc + 3) ls (.int (rd M k 6) :: rest))) : W p l e R s m args below meth c H locs cells slots Q (F0 m pc ls (.ref (ad k) :: rest)) :=
  g_get hx hb hts inW2 hown hK hI hk (by simp) rfl rfl 6 (by decide) ⟨rfl, rfl, rfl⟩ hlink rfl hdg kk
theorem gp2_6 (hx : p.tables.exec = Jvm.exec) (hb : c.code = cc) (hts : ∀ w ∈ WA, w.before args s = true) {own : String} {index k : Nat} (hown : s.vm.findClass own = some m.cls) (hK : va_K G.1 vwCl (tyL G) s) (hap : Apt kd ad) (hI : Inv G kd ad H0 M H locs) (hk : kd k = (2, 0)) (hlink : Cond.fieldLink own index "SheetFolder$Places" "legCount" "I" ∈ WA) {v : Int32} (hdg : decode cc pc = .ok (.putfield index, 3)) {M' : Mem} (hM : M' = wr M k 6 v) (kk : ∀ (H1 : Heap) (locs1 : List Loc), Inv G kd ad H0 M' H1 locs1 → W p l e R s m args below meth c H1 locs1 cells slots Q (F0 m (pc + 3) ls rest)) : W p l e R s m args below meth c H locs cells slots Q (F0 m pc ls (.int v :: .ref (ad k) :: rest)) := by
  subst hM
  exact g_put hx hb hts inW2 tyX2 tyX2_ok nmX2 hown hK hap hI hk (by simp) rfl rfl 6 (by decide) ⟨rfl, rfl, rfl⟩ hlink rfl (ty := .int) (by decide +kernel) rfl rfl (Nat.le_of_ble_eq_true rfl) (by rw [wr_s]; rfl) wr_o hdg kk
theorem gg2_7 (hx : p.tables.exec = Jvm.exec) (hb : c.code = cc) (hts : ∀ w ∈ WA, w.before args s = true) {own : String} {index k : Nat} (hown : s.vm.findClass own = some m.cls) (hK : va_K G.1 vwCl (tyL G) s) (hI : Inv G kd ad H0 M H locs) (hk : kd k = (2, 0)) (hlink : Cond.fieldLink own index "SheetFolder$Places" "clampedFrom" "I" ∈ WA) (hdg : decode cc pc = .ok (.getfield index, 3)) (kk : W p l e R s m args below meth c H locs cells slots Q (F0 m (pc + 3) ls (.int (rd M k 7) :: rest))) : W p l e R s m args below meth c H locs cells slots Q (F0 m pc ls (.ref (ad k) :: rest)) :=
  g_get hx hb hts inW2 hown hK hI hk (by simp) rfl rfl 7 (by decide) ⟨rfl, rfl, rfl⟩ hlink rfl hdg kk
theorem gp2_7 (hx : p.tables.exec = Jvm.exec) (hb : c.code = cc) (hts : ∀ w ∈ WA, w.before args s = true) {own : String} {index k : Nat} (hown : s.vm.findClass own = some m.cls) (hK : va_K G.1 vwCl (tyL G) s) (hap : Apt kd ad) (hI : Inv G kd ad H0 M H locs) (hk : kd k = (2, 0)) (hlink : Cond.fieldLink own index "SheetFolder$Places" "clampedFrom" "I" ∈ WA) {v : Int32} (hdg : decode cc pc = .ok (.putfield index, 3)) {M' : Mem} (hM : M' = wr M k 7 v) (kk : ∀ (H1 : Heap) (locs1 : List Loc), Inv G kd ad H0 M' H1 locs1 → W p l e R s m args below meth c H1 locs1 cells slots Q (F0 m (pc + 3) ls rest)) : W p l e R s m args below meth c H locs cells slots Q (F0 m pc ls (.int v :: .ref (ad k) :: rest)) := by
  subst hM
  exact g_put hx hb hts inW2 tyX2 tyX2_ok nmX2 hown hK hap hI hk (by simp) rfl rfl 7 (by decide) ⟨rfl, rfl, rfl⟩ hlink rfl (ty := .int) (by decide +kernel) rfl rfl (Nat.le_of_ble_eq_true rfl) (by rw [wr_s]; rfl) wr_o hdg kk
theorem gg2_8 (hx : p.tables.exec = Jvm.exec) (hb : c.code = cc) (hts : ∀ w ∈ WA, w.before args s = true) {own : String} {index k : Nat} (hown : s.vm.findClass own = some m.cls) (hK : va_K G.1 vwCl (tyL G) s) (hI : Inv G kd ad H0 M H locs) (hk : kd k = (2, 0)) (hlink : Cond.fieldLink own index "SheetFolder$Places" "clampedTo" "I" ∈ WA) (hdg : decode cc pc = .ok (.getfield index, 3)) (kk : W p l e R s m args below meth c H locs cells slots Q (F0 m (pc + 3) ls (.int (rd M k 8) :: rest))) : W p l e R s m args below meth c H locs cells slots Q (F0 m pc ls (.ref (ad k) :: rest)) :=
  g_get hx hb hts inW2 hown hK hI hk (by simp) rfl rfl 8 (by decide) ⟨rfl, rfl, rfl⟩ hlink rfl hdg kk
theorem gp2_8 (hx : p.tables.exec = Jvm.exec) (hb : c.code = cc) (hts : ∀ w ∈ WA, w.before args s = true) {own : String} {index k : Nat} (hown : s.vm.findClass own = some m.cls) (hK : va_K G.1 vwCl (tyL G) s) (hap : Apt kd ad) (hI : Inv G kd ad H0 M H locs) (hk : kd k = (2, 0)) (hlink : Cond.fieldLink own index "SheetFolder$Places" "clampedTo" "I" ∈ WA) {v : Int32} (hdg : decode cc pc = .ok (.putfield index, 3)) {M' : Mem} (hM : M' = wr M k 8 v) (kk : ∀ (H1 : Heap) (locs1 : List Loc), Inv G kd ad H0 M' H1 locs1 → W p l e R s m args below meth c H1 locs1 cells slots Q (F0 m (pc + 3) ls rest)) : W p l e R s m args below meth c H locs cells slots Q (F0 m pc ls (.int v :: .ref (ad k) :: rest)) := by
  subst hM
  exact g_put hx hb hts inW2 tyX2 tyX2_ok nmX2 hown hK hap hI hk (by simp) rfl rfl 8 (by decide) ⟨rfl, rfl, rfl⟩ hlink rfl (ty := .int) (by decide +kernel) rfl rfl (Nat.le_of_ble_eq_true rfl) (by rw [wr_s]; rfl) wr_o hdg kk
theorem inW3 : ∀ w ∈ u_ws RX3 TX3 13, w ∈ WA := wa_f (List.forall_mem_cons.mpr ⟨q_t2_21, List.forall_mem_cons.mpr ⟨q_t2_23, List.forall_mem_cons.mpr ⟨q_t2_25, List.forall_mem_cons.mpr ⟨q_t2_27, List.forall_mem_cons.mpr ⟨q_t2_29, List.forall_mem_cons.mpr ⟨q_t2_31, List.forall_mem_cons.mpr ⟨q_t2_33, List.forall_mem_cons.mpr ⟨q_t2_35, List.forall_mem_cons.mpr ⟨q_t2_37, List.forall_mem_cons.mpr ⟨q_t2_39, List.forall_mem_cons.mpr ⟨q_t2_41, List.forall_mem_cons.mpr ⟨q_t2_43, List.forall_mem_cons.mpr ⟨q_t2_45, fun _ h => absurd h List.not_mem_nil⟩⟩⟩⟩⟩⟩⟩⟩⟩⟩⟩⟩⟩) _ rfl
theorem gg3_0 (hx : p.tables.exec = Jvm.exec) (hb : c.code = cc) (hts : ∀ w ∈ WA, w.before args s = true) {own : String} {index k : Nat} (hown : s.vm.findClass own = some m.cls) (hK : va_K G.1 vwCl (tyL G) s) (hI : Inv G kd ad H0 M H locs) (hk : kd k = (3, 0)) (hlink : Cond.fieldLink own index "SheetFolder$Planner" "leastTotal" "I" ∈ WA) (hdg : decode cc pc = .ok (.getfield index, 3)) (kk : W p l e R s m args below meth c H locs cells slots Q (F0 m (pc + 3) ls (.int (rd M k 0) :: rest))) : W p l e R s m args below meth c H locs cells slots Q (F0 m pc ls (.ref (ad k) :: rest)) :=
  g_get hx hb hts inW3 hown hK hI hk (by simp) rfl rfl 0 (by decide) ⟨rfl, rfl, rfl⟩ hlink rfl hdg kk
theorem gp3_0 (hx : p.tables.exec = Jvm.exec) (hb : c.code = cc) (hts : ∀ w ∈ WA, w.before args s = true) {own : String} {index k : Nat} (hown : s.vm.findClass own = some m.cls) (hK : va_K G.1 vwCl (tyL G) s) (hap : Apt kd ad) (hI : Inv G kd ad H0 M H locs) (hk : kd k = (3, 0)) (hlink : Cond.fieldLink own index "SheetFolder$Planner" "leastTotal" "I" ∈ WA) {v : Int32} (hdg : decode cc pc = .ok (.putfield index, 3)) {M' : Mem} (hM : M' = wr M k 0 v) (kk : ∀ (H1 : Heap) (locs1 : List Loc), Inv G kd ad H0 M' H1 locs1 → W p l e R s m args below meth c H1 locs1 cells slots Q (F0 m (pc + 3) ls rest)) : W p l e R s m args below meth c H locs cells slots Q (F0 m pc ls (.int v :: .ref (ad k) :: rest)) := by
  subst hM
  exact g_put hx hb hts inW3 tyX3 tyX3_ok nmX3 hown hK hap hI hk (by simp) rfl rfl 0 (by decide) ⟨rfl, rfl, rfl⟩ hlink rfl (ty := .int) (by decide +kernel) rfl rfl (Nat.le_of_ble_eq_true rfl) (by rw [wr_s]; rfl) wr_o hdg kk
theorem gg3_1 (hx : p.tables.exec = Jvm.exec) (hb : c.code = cc) (hts : ∀ w ∈ WA, w.before args s = true) {own : String} {index k : Nat} (hown : s.vm.findClass own = some m.cls) (hK : va_K G.1 vwCl (tyL G) s) (hI : Inv G kd ad H0 M H locs) (hk : kd k = (3, 0)) (hlink : Cond.fieldLink own index "SheetFolder$Planner" "greatestTotal" "I" ∈ WA) (hdg : decode cc pc = .ok (.getfield index, 3)) (kk : W p l e R s m args below meth c H locs cells slots Q (F0 m (pc + 3) ls (.int (rd M k 1) :: rest))) : W p l e R s m args below meth c H locs cells slots Q (F0 m pc ls (.ref (ad k) :: rest)) :=
  g_get hx hb hts inW3 hown hK hI hk (by simp) rfl rfl 1 (by decide) ⟨rfl, rfl, rfl⟩ hlink rfl hdg kk
theorem gp3_1 (hx : p.tables.exec = Jvm.exec) (hb : c.code = cc) (hts : ∀ w ∈ WA, w.before args s = true) {own : String} {index k : Nat} (hown : s.vm.findClass own = some m.cls) (hK : va_K G.1 vwCl (tyL G) s) (hap : Apt kd ad) (hI : Inv G kd ad H0 M H locs) (hk : kd k = (3, 0)) (hlink : Cond.fieldLink own index "SheetFolder$Planner" "greatestTotal" "I" ∈ WA) {v : Int32} (hdg : decode cc pc = .ok (.putfield index, 3)) {M' : Mem} (hM : M' = wr M k 1 v) (kk : ∀ (H1 : Heap) (locs1 : List Loc), Inv G kd ad H0 M' H1 locs1 → W p l e R s m args below meth c H1 locs1 cells slots Q (F0 m (pc + 3) ls rest)) : W p l e R s m args below meth c H locs cells slots Q (F0 m pc ls (.int v :: .ref (ad k) :: rest)) := by
  subst hM
  exact g_put hx hb hts inW3 tyX3 tyX3_ok nmX3 hown hK hap hI hk (by simp) rfl rfl 1 (by decide) ⟨rfl, rfl, rfl⟩ hlink rfl (ty := .int) (by decide +kernel) rfl rfl (Nat.le_of_ble_eq_true rfl) (by rw [wr_s]; rfl) wr_o hdg kk
theorem gg3_2 (hx : p.tables.exec = Jvm.exec) (hb : c.code = cc) (hts : ∀ w ∈ WA, w.before args s = true) {own : String} {index k : Nat} (hown : s.vm.findClass own = some m.cls) (hK : va_K G.1 vwCl (tyL G) s) (hI : Inv G kd ad H0 M H locs) (hk : kd k = (3, 0)) (hlink : Cond.fieldLink own index "SheetFolder$Planner" "plan" "[I" ∈ WA) (hdg : decode cc pc = .ok (.getfield index, 3)) (kk : W p l e R s m args below meth c H locs cells slots Q (F0 m (pc + 3) ls (.ref (ad (k + 1)) :: rest))) : W p l e R s m args below meth c H locs cells slots Q (F0 m pc ls (.ref (ad k) :: rest)) :=
  g_get hx hb hts inW3 hown hK hI hk (by simp) rfl rfl 2 (by decide) ⟨rfl, rfl, rfl⟩ hlink rfl hdg kk
theorem gg3_3 (hx : p.tables.exec = Jvm.exec) (hb : c.code = cc) (hts : ∀ w ∈ WA, w.before args s = true) {own : String} {index k : Nat} (hown : s.vm.findClass own = some m.cls) (hK : va_K G.1 vwCl (tyL G) s) (hI : Inv G kd ad H0 M H locs) (hk : kd k = (3, 0)) (hlink : Cond.fieldLink own index "SheetFolder$Planner" "planLength" "I" ∈ WA) (hdg : decode cc pc = .ok (.getfield index, 3)) (kk : W p l e R s m args below meth c H locs cells slots Q (F0 m (pc + 3) ls (.int (rd M k 3) :: rest))) : W p l e R s m args below meth c H locs cells slots Q (F0 m pc ls (.ref (ad k) :: rest)) :=
  g_get hx hb hts inW3 hown hK hI hk (by simp) rfl rfl 3 (by decide) ⟨rfl, rfl, rfl⟩ hlink rfl hdg kk
theorem gp3_3 (hx : p.tables.exec = Jvm.exec) (hb : c.code = cc) (hts : ∀ w ∈ WA, w.before args s = true) {own : String} {index k : Nat} (hown : s.vm.findClass own = some m.cls) (hK : va_K G.1 vwCl (tyL G) s) (hap : Apt kd ad) (hI : Inv G kd ad H0 M H locs) (hk : kd k = (3, 0)) (hlink : Cond.fieldLink own index "SheetFolder$Planner" "planLength" "I" ∈ WA) {v : Int32} (hdg : decode cc pc = .ok (.putfield index, 3)) {M' : Mem} (hM : M' = wr M k 3 v) (kk : ∀ (H1 : Heap) (locs1 : List Loc), Inv G kd ad H0 M' H1 locs1 → W p l e R s m args below meth c H1 locs1 cells slots Q (F0 m (pc + 3) ls rest)) : W p l e R s m args below meth c H locs cells slots Q (F0 m pc ls (.int v :: .ref (ad k) :: rest)) := by
  subst hM
  exact g_put hx hb hts inW3 tyX3 tyX3_ok nmX3 hown hK hap hI hk (by simp) rfl rfl 3 (by decide) ⟨rfl, rfl, rfl⟩ hlink rfl (ty := .int) (by decide +kernel) rfl rfl (Nat.le_of_ble_eq_true rfl) (by rw [wr_s]; rfl) wr_o hdg kk
theorem gg3_4 (hx : p.tables.exec = Jvm.exec) (hb : c.code = cc) (hts : ∀ w ∈ WA, w.before args s = true) {own : String} {index k : Nat} (hown : s.vm.findClass own = some m.cls) (hK : va_K G.1 vwCl (tyL G) s) (hI : Inv G kd ad H0 M H locs) (hk : kd k = (3, 0)) (hlink : Cond.fieldLink own index "SheetFolder$Planner" "places" "LSheetFolder$Places;" ∈ WA) (hdg : decode cc pc = .ok (.getfield index, 3)) (kk : W p l e R s m args below meth c H locs cells slots Q (F0 m (pc + 3) ls (.ref (ad (k + 2)) :: rest))) : W p l e R s m args below meth c H locs cells slots Q (F0 m pc ls (.ref (ad k) :: rest)) :=
  g_get hx hb hts inW3 hown hK hI hk (by simp) rfl rfl 4 (by decide) ⟨rfl, rfl, rfl⟩ hlink rfl hdg kk
theorem gg3_5 (hx : p.tables.exec = Jvm.exec) (hb : c.code = cc) (hts : ∀ w ∈ WA, w.before args s = true) {own : String} {index k : Nat} (hown : s.vm.findClass own = some m.cls) (hK : va_K G.1 vwCl (tyL G) s) (hI : Inv G kd ad H0 M H locs) (hk : kd k = (3, 0)) (hlink : Cond.fieldLink own index "SheetFolder$Planner" "known" "LSheetFolder$Part;" ∈ WA) (hdg : decode cc pc = .ok (.getfield index, 3)) (kk : W p l e R s m args below meth c H locs cells slots Q (F0 m (pc + 3) ls (.ref (ad (k + 9)) :: rest))) : W p l e R s m args below meth c H locs cells slots Q (F0 m pc ls (.ref (ad k) :: rest)) :=
  g_get hx hb hts inW3 hown hK hI hk (by simp) rfl rfl 5 (by decide) ⟨rfl, rfl, rfl⟩ hlink rfl hdg kk
theorem gg3_6 (hx : p.tables.exec = Jvm.exec) (hb : c.code = cc) (hts : ∀ w ∈ WA, w.before args s = true) {own : String} {index k : Nat} (hown : s.vm.findClass own = some m.cls) (hK : va_K G.1 vwCl (tyL G) s) (hI : Inv G kd ad H0 M H locs) (hk : kd k = (3, 0)) (hlink : Cond.fieldLink own index "SheetFolder$Planner" "isPlanKnown" "Z" ∈ WA) (hdg : decode cc pc = .ok (.getfield index, 3)) (kk : W p l e R s m args below meth c H locs cells slots Q (F0 m (pc + 3) ls (.int (rd M k 6) :: rest))) : W p l e R s m args below meth c H locs cells slots Q (F0 m pc ls (.ref (ad k) :: rest)) :=
  g_get hx hb hts inW3 hown hK hI hk (by simp) rfl rfl 6 (by decide) ⟨rfl, rfl, rfl⟩ hlink rfl hdg kk
theorem gp3_6 (hx : p.tables.exec = Jvm.exec) (hb : c.code = cc) (hts : ∀ w ∈ WA, w.before args s = true) {own : String} {index k : Nat} (hown : s.vm.findClass own = some m.cls) (hK : va_K G.1 vwCl (tyL G) s) (hap : Apt kd ad) (hI : Inv G kd ad H0 M H locs) (hk : kd k = (3, 0)) (hlink : Cond.fieldLink own index "SheetFolder$Planner" "isPlanKnown" "Z" ∈ WA) {v : Int32} (hdg : decode cc pc = .ok (.putfield index, 3)) (hn : narrow .boolean (.int v) = .int v) (hfz : fits .boolean (.int v) = true) {M' : Mem} (hM : M' = wr M k 6 v) (kk : ∀ (H1 : Heap) (locs1 : List Loc), Inv G kd ad H0 M' H1 locs1 → W p l e R s m args below meth c H1 locs1 cells slots Q (F0 m (pc + 3) ls rest)) : W p l e R s m args below meth c H locs cells slots Q (F0 m pc ls (.int v :: .ref (ad k) :: rest)) := by
  subst hM
  exact g_put hx hb hts inW3 tyX3 tyX3_ok nmX3 hown hK hap hI hk (by simp) rfl rfl 6 (by decide) ⟨rfl, rfl, rfl⟩ hlink rfl (ty := .boolean) (by decide +kernel) hn hfz (Nat.le_of_ble_eq_true rfl) (by rw [wr_s]; rfl) wr_o hdg kk
theorem gg3_7 (hx : p.tables.exec = Jvm.exec) (hb : c.code = cc) (hts : ∀ w ∈ WA, w.before args s = true) {own : String} {index k : Nat} (hown : s.vm.findClass own = some m.cls) (hK : va_K G.1 vwCl (tyL G) s) (hI : Inv G kd ad H0 M H locs) (hk : kd k = (3, 0)) (hlink : Cond.fieldLink own index "SheetFolder$Planner" "openSteps" "[I" ∈ WA) (hdg : decode cc pc = .ok (.getfield index, 3)) (kk : W p l e R s m args below meth c H locs cells slots Q (F0 m (pc + 3) ls (.ref (ad (k + 17)) :: rest))) : W p l e R s m args below meth c H locs cells slots Q (F0 m pc ls (.ref (ad k) :: rest)) :=
  g_get hx hb hts inW3 hown hK hI hk (by simp) rfl rfl 7 (by decide) ⟨rfl, rfl, rfl⟩ hlink rfl hdg kk
theorem gg3_8 (hx : p.tables.exec = Jvm.exec) (hb : c.code = cc) (hts : ∀ w ∈ WA, w.before args s = true) {own : String} {index k : Nat} (hown : s.vm.findClass own = some m.cls) (hK : va_K G.1 vwCl (tyL G) s) (hI : Inv G kd ad H0 M H locs) (hk : kd k = (3, 0)) (hlink : Cond.fieldLink own index "SheetFolder$Planner" "isReached" "[Z" ∈ WA) (hdg : decode cc pc = .ok (.getfield index, 3)) (kk : W p l e R s m args below meth c H locs cells slots Q (F0 m (pc + 3) ls (.ref (ad (k + 18)) :: rest))) : W p l e R s m args below meth c H locs cells slots Q (F0 m pc ls (.ref (ad k) :: rest)) :=
  g_get hx hb hts inW3 hown hK hI hk (by simp) rfl rfl 8 (by decide) ⟨rfl, rfl, rfl⟩ hlink rfl hdg kk
theorem gg3_9 (hx : p.tables.exec = Jvm.exec) (hb : c.code = cc) (hts : ∀ w ∈ WA, w.before args s = true) {own : String} {index k : Nat} (hown : s.vm.findClass own = some m.cls) (hK : va_K G.1 vwCl (tyL G) s) (hI : Inv G kd ad H0 M H locs) (hk : kd k = (3, 0)) (hlink : Cond.fieldLink own index "SheetFolder$Planner" "orderCounts" "[J" ∈ WA) (hdg : decode cc pc = .ok (.getfield index, 3)) (kk : W p l e R s m args below meth c H locs cells slots Q (F0 m (pc + 3) ls (.ref (ad (k + 19)) :: rest))) : W p l e R s m args below meth c H locs cells slots Q (F0 m pc ls (.ref (ad k) :: rest)) :=
  g_get hx hb hts inW3 hown hK hI hk (by simp) rfl rfl 9 (by decide) ⟨rfl, rfl, rfl⟩ hlink rfl hdg kk
theorem gg3_10 (hx : p.tables.exec = Jvm.exec) (hb : c.code = cc) (hts : ∀ w ∈ WA, w.before args s = true) {own : String} {index k : Nat} (hown : s.vm.findClass own = some m.cls) (hK : va_K G.1 vwCl (tyL G) s) (hI : Inv G kd ad H0 M H locs) (hk : kd k = (3, 0)) (hlink : Cond.fieldLink own index "SheetFolder$Planner" "gauges" "[I" ∈ WA) (hdg : decode cc pc = .ok (.getfield index, 3)) (kk : W p l e R s m args below meth c H locs cells slots Q (F0 m (pc + 3) ls (.ref (ad (k + 20)) :: rest))) : W p l e R s m args below meth c H locs cells slots Q (F0 m pc ls (.ref (ad k) :: rest)) :=
  g_get hx hb hts inW3 hown hK hI hk (by simp) rfl rfl 10 (by decide) ⟨rfl, rfl, rfl⟩ hlink rfl hdg kk
theorem gg3_11 (hx : p.tables.exec = Jvm.exec) (hb : c.code = cc) (hts : ∀ w ∈ WA, w.before args s = true) {own : String} {index k : Nat} (hown : s.vm.findClass own = some m.cls) (hK : va_K G.1 vwCl (tyL G) s) (hI : Inv G kd ad H0 M H locs) (hk : kd k = (3, 0)) (hlink : Cond.fieldLink own index "SheetFolder$Planner" "leastCosts" "[I" ∈ WA) (hdg : decode cc pc = .ok (.getfield index, 3)) (kk : W p l e R s m args below meth c H locs cells slots Q (F0 m (pc + 3) ls (.ref (ad (k + 21)) :: rest))) : W p l e R s m args below meth c H locs cells slots Q (F0 m pc ls (.ref (ad k) :: rest)) :=
  g_get hx hb hts inW3 hown hK hI hk (by simp) rfl rfl 11 (by decide) ⟨rfl, rfl, rfl⟩ hlink rfl hdg kk
theorem gg3_12 (hx : p.tables.exec = Jvm.exec) (hb : c.code = cc) (hts : ∀ w ∈ WA, w.before args s = true) {own : String} {index k : Nat} (hown : s.vm.findClass own = some m.cls) (hK : va_K G.1 vwCl (tyL G) s) (hI : Inv G kd ad H0 M H locs) (hk : kd k = (3, 0)) (hlink : Cond.fieldLink own index "SheetFolder$Planner" "greatestCosts" "[I" ∈ WA) (hdg : decode cc pc = .ok (.getfield index, 3)) (kk : W p l e R s m args below meth c H locs cells slots Q (F0 m (pc + 3) ls (.ref (ad (k + 22)) :: rest))) : W p l e R s m args below meth c H locs cells slots Q (F0 m pc ls (.ref (ad k) :: rest)) :=
  g_get hx hb hts inW3 hown hK hI hk (by simp) rfl rfl 12 (by decide) ⟨rfl, rfl, rfl⟩ hlink rfl hdg kk
theorem inW4 : ∀ w ∈ u_ws RX4 TX4 9, w ∈ WA := wa_f (List.forall_mem_cons.mpr ⟨q_t1_54, List.forall_mem_cons.mpr ⟨q_t1_56, List.forall_mem_cons.mpr ⟨q_t1_58, List.forall_mem_cons.mpr ⟨q_t1_60, List.forall_mem_cons.mpr ⟨q_t1_62, List.forall_mem_cons.mpr ⟨q_t1_64, List.forall_mem_cons.mpr ⟨q_t1_66, List.forall_mem_cons.mpr ⟨q_t1_68, List.forall_mem_cons.mpr ⟨q_t1_70, fun _ h => absurd h List.not_mem_nil⟩⟩⟩⟩⟩⟩⟩⟩⟩) _ rfl
theorem gg4_0 (hx : p.tables.exec = Jvm.exec) (hb : c.code = cc) (hts : ∀ w ∈ WA, w.before args s = true) {own : String} {index k : Nat} (hown : s.vm.findClass own = some m.cls) (hK : va_K G.1 vwCl (tyL G) s) (hI : Inv G kd ad H0 M H locs) (hk : kd k = (5, 0)) (hlink : Cond.fieldLink own index "SheetFolder$TextReader" "kindOfError" "I" ∈ WA) (hdg : decode cc pc = .ok (.getfield index, 3)) (kk : W p l e R s m args below meth c H locs cells slots Q (F0 m (pc + 3) ls (.int (rd M k 0) :: rest))) : W p l e R s m args below meth c H locs cells slots Q (F0 m pc ls (.ref (ad k) :: rest)) :=
  g_get hx hb hts inW4 hown hK hI hk (by simp) rfl rfl 0 (by decide) ⟨rfl, rfl, rfl⟩ hlink rfl hdg kk
theorem gp4_0 (hx : p.tables.exec = Jvm.exec) (hb : c.code = cc) (hts : ∀ w ∈ WA, w.before args s = true) {own : String} {index k : Nat} (hown : s.vm.findClass own = some m.cls) (hK : va_K G.1 vwCl (tyL G) s) (hap : Apt kd ad) (hI : Inv G kd ad H0 M H locs) (hk : kd k = (5, 0)) (hlink : Cond.fieldLink own index "SheetFolder$TextReader" "kindOfError" "I" ∈ WA) {v : Int32} (hdg : decode cc pc = .ok (.putfield index, 3)) {M' : Mem} (hM : M' = wr M k 0 v) (kk : ∀ (H1 : Heap) (locs1 : List Loc), Inv G kd ad H0 M' H1 locs1 → W p l e R s m args below meth c H1 locs1 cells slots Q (F0 m (pc + 3) ls rest)) : W p l e R s m args below meth c H locs cells slots Q (F0 m pc ls (.int v :: .ref (ad k) :: rest)) := by
  subst hM
  exact g_put hx hb hts inW4 tyX4 tyX4_ok nmX4 hown hK hap hI hk (by simp) rfl rfl 0 (by decide) ⟨rfl, rfl, rfl⟩ hlink rfl (ty := .int) (by decide +kernel) rfl rfl (Nat.le_of_ble_eq_true rfl) (by rw [wr_s]; rfl) wr_o hdg kk
theorem gg4_1 (hx : p.tables.exec = Jvm.exec) (hb : c.code = cc) (hts : ∀ w ∈ WA, w.before args s = true) {own : String} {index k : Nat} (hown : s.vm.findClass own = some m.cls) (hK : va_K G.1 vwCl (tyL G) s) (hI : Inv G kd ad H0 M H locs) (hk : kd k = (5, 0)) (hlink : Cond.fieldLink own index "SheetFolder$TextReader" "placeOfError" "I" ∈ WA) (hdg : decode cc pc = .ok (.getfield index, 3)) (kk : W p l e R s m args below meth c H locs cells slots Q (F0 m (pc + 3) ls (.int (rd M k 1) :: rest))) : W p l e R s m args below meth c H locs cells slots Q (F0 m pc ls (.ref (ad k) :: rest)) :=
  g_get hx hb hts inW4 hown hK hI hk (by simp) rfl rfl 1 (by decide) ⟨rfl, rfl, rfl⟩ hlink rfl hdg kk
theorem gp4_1 (hx : p.tables.exec = Jvm.exec) (hb : c.code = cc) (hts : ∀ w ∈ WA, w.before args s = true) {own : String} {index k : Nat} (hown : s.vm.findClass own = some m.cls) (hK : va_K G.1 vwCl (tyL G) s) (hap : Apt kd ad) (hI : Inv G kd ad H0 M H locs) (hk : kd k = (5, 0)) (hlink : Cond.fieldLink own index "SheetFolder$TextReader" "placeOfError" "I" ∈ WA) {v : Int32} (hdg : decode cc pc = .ok (.putfield index, 3)) {M' : Mem} (hM : M' = wr M k 1 v) (kk : ∀ (H1 : Heap) (locs1 : List Loc), Inv G kd ad H0 M' H1 locs1 → W p l e R s m args below meth c H1 locs1 cells slots Q (F0 m (pc + 3) ls rest)) : W p l e R s m args below meth c H locs cells slots Q (F0 m pc ls (.int v :: .ref (ad k) :: rest)) := by
  subst hM
  exact g_put hx hb hts inW4 tyX4 tyX4_ok nmX4 hown hK hap hI hk (by simp) rfl rfl 1 (by decide) ⟨rfl, rfl, rfl⟩ hlink rfl (ty := .int) (by decide +kernel) rfl rfl (Nat.le_of_ble_eq_true rfl) (by rw [wr_s]; rfl) wr_o hdg kk
theorem gg4_2 (hx : p.tables.exec = Jvm.exec) (hb : c.code = cc) (hts : ∀ w ∈ WA, w.before args s = true) {own : String} {index k : Nat} (hown : s.vm.findClass own = some m.cls) (hK : va_K G.1 vwCl (tyL G) s) (hI : Inv G kd ad H0 M H locs) (hk : kd k = (5, 0)) (hlink : Cond.fieldLink own index "SheetFolder$TextReader" "bytes" "[B" ∈ WA) (hdg : decode cc pc = .ok (.getfield index, 3)) (kk : W p l e R s m args below meth c H locs cells slots Q (F0 m (pc + 3) ls (.ref (ad (if M.1 k 2 = 1 then 1 else 4)) :: rest))) : W p l e R s m args below meth c H locs cells slots Q (F0 m pc ls (.ref (ad k) :: rest)) :=
  g_get hx hb hts inW4 hown hK hI hk (by simp) rfl rfl 2 (by decide) ⟨rfl, rfl, rfl⟩ hlink rfl hdg kk
theorem gg4_3 (hx : p.tables.exec = Jvm.exec) (hb : c.code = cc) (hts : ∀ w ∈ WA, w.before args s = true) {own : String} {index k : Nat} (hown : s.vm.findClass own = some m.cls) (hK : va_K G.1 vwCl (tyL G) s) (hI : Inv G kd ad H0 M H locs) (hk : kd k = (5, 0)) (hlink : Cond.fieldLink own index "SheetFolder$TextReader" "length" "I" ∈ WA) (hdg : decode cc pc = .ok (.getfield index, 3)) (kk : W p l e R s m args below meth c H locs cells slots Q (F0 m (pc + 3) ls (.int (rd M k 3) :: rest))) : W p l e R s m args below meth c H locs cells slots Q (F0 m pc ls (.ref (ad k) :: rest)) :=
  g_get hx hb hts inW4 hown hK hI hk (by simp) rfl rfl 3 (by decide) ⟨rfl, rfl, rfl⟩ hlink rfl hdg kk
theorem gp4_3 (hx : p.tables.exec = Jvm.exec) (hb : c.code = cc) (hts : ∀ w ∈ WA, w.before args s = true) {own : String} {index k : Nat} (hown : s.vm.findClass own = some m.cls) (hK : va_K G.1 vwCl (tyL G) s) (hap : Apt kd ad) (hI : Inv G kd ad H0 M H locs) (hk : kd k = (5, 0)) (hlink : Cond.fieldLink own index "SheetFolder$TextReader" "length" "I" ∈ WA) {v : Int32} (hdg : decode cc pc = .ok (.putfield index, 3)) {M' : Mem} (hM : M' = wr M k 3 v) (kk : ∀ (H1 : Heap) (locs1 : List Loc), Inv G kd ad H0 M' H1 locs1 → W p l e R s m args below meth c H1 locs1 cells slots Q (F0 m (pc + 3) ls rest)) : W p l e R s m args below meth c H locs cells slots Q (F0 m pc ls (.int v :: .ref (ad k) :: rest)) := by
  subst hM
  exact g_put hx hb hts inW4 tyX4 tyX4_ok nmX4 hown hK hap hI hk (by simp) rfl rfl 3 (by decide) ⟨rfl, rfl, rfl⟩ hlink rfl (ty := .int) (by decide +kernel) rfl rfl (Nat.le_of_ble_eq_true rfl) (by rw [wr_s]; rfl) wr_o hdg kk
theorem gg4_4 (hx : p.tables.exec = Jvm.exec) (hb : c.code = cc) (hts : ∀ w ∈ WA, w.before args s = true) {own : String} {index k : Nat} (hown : s.vm.findClass own = some m.cls) (hK : va_K G.1 vwCl (tyL G) s) (hI : Inv G kd ad H0 M H locs) (hk : kd k = (5, 0)) (hlink : Cond.fieldLink own index "SheetFolder$TextReader" "tokenFrom" "I" ∈ WA) (hdg : decode cc pc = .ok (.getfield index, 3)) (kk : W p l e R s m args below meth c H locs cells slots Q (F0 m (pc + 3) ls (.int (rd M k 4) :: rest))) : W p l e R s m args below meth c H locs cells slots Q (F0 m pc ls (.ref (ad k) :: rest)) :=
  g_get hx hb hts inW4 hown hK hI hk (by simp) rfl rfl 4 (by decide) ⟨rfl, rfl, rfl⟩ hlink rfl hdg kk
theorem gp4_4 (hx : p.tables.exec = Jvm.exec) (hb : c.code = cc) (hts : ∀ w ∈ WA, w.before args s = true) {own : String} {index k : Nat} (hown : s.vm.findClass own = some m.cls) (hK : va_K G.1 vwCl (tyL G) s) (hap : Apt kd ad) (hI : Inv G kd ad H0 M H locs) (hk : kd k = (5, 0)) (hlink : Cond.fieldLink own index "SheetFolder$TextReader" "tokenFrom" "I" ∈ WA) {v : Int32} (hdg : decode cc pc = .ok (.putfield index, 3)) {M' : Mem} (hM : M' = wr M k 4 v) (kk : ∀ (H1 : Heap) (locs1 : List Loc), Inv G kd ad H0 M' H1 locs1 → W p l e R s m args below meth c H1 locs1 cells slots Q (F0 m (pc + 3) ls rest)) : W p l e R s m args below meth c H locs cells slots Q (F0 m pc ls (.int v :: .ref (ad k) :: rest)) := by
  subst hM
  exact g_put hx hb hts inW4 tyX4 tyX4_ok nmX4 hown hK hap hI hk (by simp) rfl rfl 4 (by decide) ⟨rfl, rfl, rfl⟩ hlink rfl (ty := .int) (by decide +kernel) rfl rfl (Nat.le_of_ble_eq_true rfl) (by rw [wr_s]; rfl) wr_o hdg kk
theorem gg4_5 (hx : p.tables.exec = Jvm.exec) (hb : c.code = cc) (hts : ∀ w ∈ WA, w.before args s = true) {own : String} {index k : Nat} (hown : s.vm.findClass own = some m.cls) (hK : va_K G.1 vwCl (tyL G) s) (hI : Inv G kd ad H0 M H locs) (hk : kd k = (5, 0)) (hlink : Cond.fieldLink own index "SheetFolder$TextReader" "tokenTo" "I" ∈ WA) (hdg : decode cc pc = .ok (.getfield index, 3)) (kk : W p l e R s m args below meth c H locs cells slots Q (F0 m (pc + 3) ls (.int (rd M k 5) :: rest))) : W p l e R s m args below meth c H locs cells slots Q (F0 m pc ls (.ref (ad k) :: rest)) :=
  g_get hx hb hts inW4 hown hK hI hk (by simp) rfl rfl 5 (by decide) ⟨rfl, rfl, rfl⟩ hlink rfl hdg kk
theorem gp4_5 (hx : p.tables.exec = Jvm.exec) (hb : c.code = cc) (hts : ∀ w ∈ WA, w.before args s = true) {own : String} {index k : Nat} (hown : s.vm.findClass own = some m.cls) (hK : va_K G.1 vwCl (tyL G) s) (hap : Apt kd ad) (hI : Inv G kd ad H0 M H locs) (hk : kd k = (5, 0)) (hlink : Cond.fieldLink own index "SheetFolder$TextReader" "tokenTo" "I" ∈ WA) {v : Int32} (hdg : decode cc pc = .ok (.putfield index, 3)) {M' : Mem} (hM : M' = wr M k 5 v) (kk : ∀ (H1 : Heap) (locs1 : List Loc), Inv G kd ad H0 M' H1 locs1 → W p l e R s m args below meth c H1 locs1 cells slots Q (F0 m (pc + 3) ls rest)) : W p l e R s m args below meth c H locs cells slots Q (F0 m pc ls (.int v :: .ref (ad k) :: rest)) := by
  subst hM
  exact g_put hx hb hts inW4 tyX4 tyX4_ok nmX4 hown hK hap hI hk (by simp) rfl rfl 5 (by decide) ⟨rfl, rfl, rfl⟩ hlink rfl (ty := .int) (by decide +kernel) rfl rfl (Nat.le_of_ble_eq_true rfl) (by rw [wr_s]; rfl) wr_o hdg kk
theorem gg4_6 (hx : p.tables.exec = Jvm.exec) (hb : c.code = cc) (hts : ∀ w ∈ WA, w.before args s = true) {own : String} {index k : Nat} (hown : s.vm.findClass own = some m.cls) (hK : va_K G.1 vwCl (tyL G) s) (hI : Inv G kd ad H0 M H locs) (hk : kd k = (5, 0)) (hlink : Cond.fieldLink own index "SheetFolder$TextReader" "token" "I" ∈ WA) (hdg : decode cc pc = .ok (.getfield index, 3)) (kk : W p l e R s m args below meth c H locs cells slots Q (F0 m (pc + 3) ls (.int (rd M k 6) :: rest))) : W p l e R s m args below meth c H locs cells slots Q (F0 m pc ls (.ref (ad k) :: rest)) :=
  g_get hx hb hts inW4 hown hK hI hk (by simp) rfl rfl 6 (by decide) ⟨rfl, rfl, rfl⟩ hlink rfl hdg kk
theorem gp4_6 (hx : p.tables.exec = Jvm.exec) (hb : c.code = cc) (hts : ∀ w ∈ WA, w.before args s = true) {own : String} {index k : Nat} (hown : s.vm.findClass own = some m.cls) (hK : va_K G.1 vwCl (tyL G) s) (hap : Apt kd ad) (hI : Inv G kd ad H0 M H locs) (hk : kd k = (5, 0)) (hlink : Cond.fieldLink own index "SheetFolder$TextReader" "token" "I" ∈ WA) {v : Int32} (hdg : decode cc pc = .ok (.putfield index, 3)) {M' : Mem} (hM : M' = wr M k 6 v) (kk : ∀ (H1 : Heap) (locs1 : List Loc), Inv G kd ad H0 M' H1 locs1 → W p l e R s m args below meth c H1 locs1 cells slots Q (F0 m (pc + 3) ls rest)) : W p l e R s m args below meth c H locs cells slots Q (F0 m pc ls (.int v :: .ref (ad k) :: rest)) := by
  subst hM
  exact g_put hx hb hts inW4 tyX4 tyX4_ok nmX4 hown hK hap hI hk (by simp) rfl rfl 6 (by decide) ⟨rfl, rfl, rfl⟩ hlink rfl (ty := .int) (by decide +kernel) rfl rfl (Nat.le_of_ble_eq_true rfl) (by rw [wr_s]; rfl) wr_o hdg kk
theorem gg4_7 (hx : p.tables.exec = Jvm.exec) (hb : c.code = cc) (hts : ∀ w ∈ WA, w.before args s = true) {own : String} {index k : Nat} (hown : s.vm.findClass own = some m.cls) (hK : va_K G.1 vwCl (tyL G) s) (hI : Inv G kd ad H0 M H locs) (hk : kd k = (5, 0)) (hlink : Cond.fieldLink own index "SheetFolder$TextReader" "tokenNumber" "I" ∈ WA) (hdg : decode cc pc = .ok (.getfield index, 3)) (kk : W p l e R s m args below meth c H locs cells slots Q (F0 m (pc + 3) ls (.int (rd M k 7) :: rest))) : W p l e R s m args below meth c H locs cells slots Q (F0 m pc ls (.ref (ad k) :: rest)) :=
  g_get hx hb hts inW4 hown hK hI hk (by simp) rfl rfl 7 (by decide) ⟨rfl, rfl, rfl⟩ hlink rfl hdg kk
theorem gp4_7 (hx : p.tables.exec = Jvm.exec) (hb : c.code = cc) (hts : ∀ w ∈ WA, w.before args s = true) {own : String} {index k : Nat} (hown : s.vm.findClass own = some m.cls) (hK : va_K G.1 vwCl (tyL G) s) (hap : Apt kd ad) (hI : Inv G kd ad H0 M H locs) (hk : kd k = (5, 0)) (hlink : Cond.fieldLink own index "SheetFolder$TextReader" "tokenNumber" "I" ∈ WA) {v : Int32} (hdg : decode cc pc = .ok (.putfield index, 3)) {M' : Mem} (hM : M' = wr M k 7 v) (kk : ∀ (H1 : Heap) (locs1 : List Loc), Inv G kd ad H0 M' H1 locs1 → W p l e R s m args below meth c H1 locs1 cells slots Q (F0 m (pc + 3) ls rest)) : W p l e R s m args below meth c H locs cells slots Q (F0 m pc ls (.int v :: .ref (ad k) :: rest)) := by
  subst hM
  exact g_put hx hb hts inW4 tyX4 tyX4_ok nmX4 hown hK hap hI hk (by simp) rfl rfl 7 (by decide) ⟨rfl, rfl, rfl⟩ hlink rfl (ty := .int) (by decide +kernel) rfl rfl (Nat.le_of_ble_eq_true rfl) (by rw [wr_s]; rfl) wr_o hdg kk
theorem gg4_8 (hx : p.tables.exec = Jvm.exec) (hb : c.code = cc) (hts : ∀ w ∈ WA, w.before args s = true) {own : String} {index k : Nat} (hown : s.vm.findClass own = some m.cls) (hK : va_K G.1 vwCl (tyL G) s) (hI : Inv G kd ad H0 M H locs) (hk : kd k = (5, 0)) (hlink : Cond.fieldLink own index "SheetFolder$TextReader" "numbers" "[I" ∈ WA) (hdg : decode cc pc = .ok (.getfield index, 3)) (kk : W p l e R s m args below meth c H locs cells slots Q (F0 m (pc + 3) ls (.ref (ad (k + 1)) :: rest))) : W p l e R s m args below meth c H locs cells slots Q (F0 m pc ls (.ref (ad k) :: rest)) :=
  g_get hx hb hts inW4 hown hK hI hk (by simp) rfl rfl 8 (by decide) ⟨rfl, rfl, rfl⟩ hlink rfl hdg kk
theorem inW6 : ∀ w ∈ u_ws RX6 TX6 9, w ∈ WA := wa_f (List.forall_mem_cons.mpr ⟨q_t2_91, List.forall_mem_cons.mpr ⟨q_t2_93, List.forall_mem_cons.mpr ⟨q_t2_95, List.forall_mem_cons.mpr ⟨q_t2_97, List.forall_mem_cons.mpr ⟨q_t2_99, List.forall_mem_cons.mpr ⟨q_t2_101, List.forall_mem_cons.mpr ⟨q_t2_103, List.forall_mem_cons.mpr ⟨q_t2_105, List.forall_mem_cons.mpr ⟨q_t2_107, fun _ h => absurd h List.not_mem_nil⟩⟩⟩⟩⟩⟩⟩⟩⟩) _ rfl
theorem gg6_0 (hx : p.tables.exec = Jvm.exec) (hb : c.code = cc) (hts : ∀ w ∈ WA, w.before args s = true) {own : String} {index k : Nat} (hown : s.vm.findClass own = some m.cls) (hK : va_K G.1 vwCl (tyL G) s) (hI : Inv G kd ad H0 M H locs) (hk : kd k = (6, 0)) (hlink : Cond.fieldLink own index "SheetFolder" "buffer" "[B" ∈ WA) (hdg : decode cc pc = .ok (.getfield index, 3)) (kk : W p l e R s m args below meth c H locs cells slots Q (F0 m (pc + 3) ls (.ref (ad 1) :: rest))) : W p l e R s m args below meth c H locs cells slots Q (F0 m pc ls (.ref (ad k) :: rest)) :=
  g_get hx hb hts inW6 hown hK hI hk (by simp) rfl rfl 0 (by decide) ⟨rfl, rfl, rfl⟩ hlink rfl hdg kk
theorem gg6_1 (hx : p.tables.exec = Jvm.exec) (hb : c.code = cc) (hts : ∀ w ∈ WA, w.before args s = true) {own : String} {index k : Nat} (hown : s.vm.findClass own = some m.cls) (hK : va_K G.1 vwCl (tyL G) s) (hI : Inv G kd ad H0 M H locs) (hk : kd k = (6, 0)) (hlink : Cond.fieldLink own index "SheetFolder" "buffered" "I" ∈ WA) (hdg : decode cc pc = .ok (.getfield index, 3)) (kk : W p l e R s m args below meth c H locs cells slots Q (F0 m (pc + 3) ls (.int (rd M k 1) :: rest))) : W p l e R s m args below meth c H locs cells slots Q (F0 m pc ls (.ref (ad k) :: rest)) :=
  g_get hx hb hts inW6 hown hK hI hk (by simp) rfl rfl 1 (by decide) ⟨rfl, rfl, rfl⟩ hlink rfl hdg kk
theorem gp6_1 (hx : p.tables.exec = Jvm.exec) (hb : c.code = cc) (hts : ∀ w ∈ WA, w.before args s = true) {own : String} {index k : Nat} (hown : s.vm.findClass own = some m.cls) (hK : va_K G.1 vwCl (tyL G) s) (hap : Apt kd ad) (hI : Inv G kd ad H0 M H locs) (hk : kd k = (6, 0)) (hlink : Cond.fieldLink own index "SheetFolder" "buffered" "I" ∈ WA) {v : Int32} (hdg : decode cc pc = .ok (.putfield index, 3)) {M' : Mem} (hM : M' = wr M k 1 v) (kk : ∀ (H1 : Heap) (locs1 : List Loc), Inv G kd ad H0 M' H1 locs1 → W p l e R s m args below meth c H1 locs1 cells slots Q (F0 m (pc + 3) ls rest)) : W p l e R s m args below meth c H locs cells slots Q (F0 m pc ls (.int v :: .ref (ad k) :: rest)) := by
  subst hM
  exact g_put hx hb hts inW6 tyX6 tyX6_ok nmX6 hown hK hap hI hk (by simp) rfl rfl 1 (by decide) ⟨rfl, rfl, rfl⟩ hlink rfl (ty := .int) (by decide +kernel) rfl rfl (Nat.le_of_ble_eq_true rfl) (by rw [wr_s]; rfl) wr_o hdg kk
theorem gg6_2 (hx : p.tables.exec = Jvm.exec) (hb : c.code = cc) (hts : ∀ w ∈ WA, w.before args s = true) {own : String} {index k : Nat} (hown : s.vm.findClass own = some m.cls) (hK : va_K G.1 vwCl (tyL G) s) (hI : Inv G kd ad H0 M H locs) (hk : kd k = (6, 0)) (hlink : Cond.fieldLink own index "SheetFolder" "reader" "LSheetFolder$TextReader;" ∈ WA) (hdg : decode cc pc = .ok (.getfield index, 3)) (kk : W p l e R s m args below meth c H locs cells slots Q (F0 m (pc + 3) ls (.ref (ad 2) :: rest))) : W p l e R s m args below meth c H locs cells slots Q (F0 m pc ls (.ref (ad k) :: rest)) :=
  g_get hx hb hts inW6 hown hK hI hk (by simp) rfl rfl 2 (by decide) ⟨rfl, rfl, rfl⟩ hlink rfl hdg kk
theorem gg6_3 (hx : p.tables.exec = Jvm.exec) (hb : c.code = cc) (hts : ∀ w ∈ WA, w.before args s = true) {own : String} {index k : Nat} (hown : s.vm.findClass own = some m.cls) (hK : va_K G.1 vwCl (tyL G) s) (hI : Inv G kd ad H0 M H locs) (hk : kd k = (6, 0)) (hlink : Cond.fieldLink own index "SheetFolder" "part" "LSheetFolder$Part;" ∈ WA) (hdg : decode cc pc = .ok (.getfield index, 3)) (kk : W p l e R s m args below meth c H locs cells slots Q (F0 m (pc + 3) ls (.ref (ad 5) :: rest))) : W p l e R s m args below meth c H locs cells slots Q (F0 m pc ls (.ref (ad k) :: rest)) :=
  g_get hx hb hts inW6 hown hK hI hk (by simp) rfl rfl 3 (by decide) ⟨rfl, rfl, rfl⟩ hlink rfl hdg kk
theorem gg6_4 (hx : p.tables.exec = Jvm.exec) (hb : c.code = cc) (hts : ∀ w ∈ WA, w.before args s = true) {own : String} {index k : Nat} (hown : s.vm.findClass own = some m.cls) (hK : va_K G.1 vwCl (tyL G) s) (hI : Inv G kd ad H0 M H locs) (hk : kd k = (6, 0)) (hlink : Cond.fieldLink own index "SheetFolder" "scratch" "LSheetFolder$Part;" ∈ WA) (hdg : decode cc pc = .ok (.getfield index, 3)) (kk : W p l e R s m args below meth c H locs cells slots Q (F0 m (pc + 3) ls (.ref (ad 13) :: rest))) : W p l e R s m args below meth c H locs cells slots Q (F0 m pc ls (.ref (ad k) :: rest)) :=
  g_get hx hb hts inW6 hown hK hI hk (by simp) rfl rfl 4 (by decide) ⟨rfl, rfl, rfl⟩ hlink rfl hdg kk
theorem gg6_5 (hx : p.tables.exec = Jvm.exec) (hb : c.code = cc) (hts : ∀ w ∈ WA, w.before args s = true) {own : String} {index k : Nat} (hown : s.vm.findClass own = some m.cls) (hK : va_K G.1 vwCl (tyL G) s) (hI : Inv G kd ad H0 M H locs) (hk : kd k = (6, 0)) (hlink : Cond.fieldLink own index "SheetFolder" "history" "LSheetFolder$History;" ∈ WA) (hdg : decode cc pc = .ok (.getfield index, 3)) (kk : W p l e R s m args below meth c H locs cells slots Q (F0 m (pc + 3) ls (.ref (ad 21) :: rest))) : W p l e R s m args below meth c H locs cells slots Q (F0 m pc ls (.ref (ad k) :: rest)) :=
  g_get hx hb hts inW6 hown hK hI hk (by simp) rfl rfl 5 (by decide) ⟨rfl, rfl, rfl⟩ hlink rfl hdg kk
theorem gg6_6 (hx : p.tables.exec = Jvm.exec) (hb : c.code = cc) (hts : ∀ w ∈ WA, w.before args s = true) {own : String} {index k : Nat} (hown : s.vm.findClass own = some m.cls) (hK : va_K G.1 vwCl (tyL G) s) (hI : Inv G kd ad H0 M H locs) (hk : kd k = (6, 0)) (hlink : Cond.fieldLink own index "SheetFolder" "places" "LSheetFolder$Places;" ∈ WA) (hdg : decode cc pc = .ok (.getfield index, 3)) (kk : W p l e R s m args below meth c H locs cells slots Q (F0 m (pc + 3) ls (.ref (ad 103) :: rest))) : W p l e R s m args below meth c H locs cells slots Q (F0 m pc ls (.ref (ad k) :: rest)) :=
  g_get hx hb hts inW6 hown hK hI hk (by simp) rfl rfl 6 (by decide) ⟨rfl, rfl, rfl⟩ hlink rfl hdg kk
theorem gg6_7 (hx : p.tables.exec = Jvm.exec) (hb : c.code = cc) (hts : ∀ w ∈ WA, w.before args s = true) {own : String} {index k : Nat} (hown : s.vm.findClass own = some m.cls) (hK : va_K G.1 vwCl (tyL G) s) (hI : Inv G kd ad H0 M H locs) (hk : kd k = (6, 0)) (hlink : Cond.fieldLink own index "SheetFolder" "planner" "LSheetFolder$Planner;" ∈ WA) (hdg : decode cc pc = .ok (.getfield index, 3)) (kk : W p l e R s m args below meth c H locs cells slots Q (F0 m (pc + 3) ls (.ref (ad 110) :: rest))) : W p l e R s m args below meth c H locs cells slots Q (F0 m pc ls (.ref (ad k) :: rest)) :=
  g_get hx hb hts inW6 hown hK hI hk (by simp) rfl rfl 7 (by decide) ⟨rfl, rfl, rfl⟩ hlink rfl hdg kk
theorem gg6_8 (hx : p.tables.exec = Jvm.exec) (hb : c.code = cc) (hts : ∀ w ∈ WA, w.before args s = true) {own : String} {index k : Nat} (hown : s.vm.findClass own = some m.cls) (hK : va_K G.1 vwCl (tyL G) s) (hI : Inv G kd ad H0 M H locs) (hk : kd k = (6, 0)) (hlink : Cond.fieldLink own index "SheetFolder" "output" "Ljava/lang/StringBuilder;" ∈ WA) (hdg : decode cc pc = .ok (.getfield index, 3)) (kk : W p l e R s m args below meth c H locs cells slots Q (F0 m (pc + 3) ls (.ref (ad 133) :: rest))) : W p l e R s m args below meth c H locs cells slots Q (F0 m pc ls (.ref (ad k) :: rest)) :=
  g_get hx hb hts inW6 hown hK hI hk (by simp) rfl rfl 8 (by decide) ⟨rfl, rfl, rfl⟩ hlink rfl hdg kk
theorem inW7 : ∀ w ∈ u_ws RX7 TX7 31, w ∈ WA := wa_f (List.forall_mem_cons.mpr ⟨q_t7_107, List.forall_mem_cons.mpr ⟨q_t7_109, List.forall_mem_cons.mpr ⟨q_t7_111, List.forall_mem_cons.mpr ⟨q_t7_113, List.forall_mem_cons.mpr ⟨q_t7_115, List.forall_mem_cons.mpr ⟨q_t7_117, List.forall_mem_cons.mpr ⟨q_t7_119, List.forall_mem_cons.mpr ⟨q_t7_121, List.forall_mem_cons.mpr ⟨q_t7_123, List.forall_mem_cons.mpr ⟨q_t7_125, List.forall_mem_cons.mpr ⟨q_t7_127, List.forall_mem_cons.mpr ⟨q_t7_129, List.forall_mem_cons.mpr ⟨q_t7_131, List.forall_mem_cons.mpr ⟨q_t7_133, List.forall_mem_cons.mpr ⟨q_t7_135, List.forall_mem_cons.mpr ⟨q_t7_137, List.forall_mem_cons.mpr ⟨q_t7_139, List.forall_mem_cons.mpr ⟨q_t7_141, List.forall_mem_cons.mpr ⟨q_t7_143, List.forall_mem_cons.mpr ⟨q_t7_145, List.forall_mem_cons.mpr ⟨q_t7_147, List.forall_mem_cons.mpr ⟨q_t7_149, List.forall_mem_cons.mpr ⟨q_t7_151, List.forall_mem_cons.mpr ⟨q_t7_153, List.forall_mem_cons.mpr ⟨q_t7_155, List.forall_mem_cons.mpr ⟨q_t7_157, List.forall_mem_cons.mpr ⟨q_t7_159, List.forall_mem_cons.mpr ⟨q_t7_161, List.forall_mem_cons.mpr ⟨q_t7_163, List.forall_mem_cons.mpr ⟨q_t7_165, List.forall_mem_cons.mpr ⟨q_t7_167, fun _ h => absurd h List.not_mem_nil⟩⟩⟩⟩⟩⟩⟩⟩⟩⟩⟩⟩⟩⟩⟩⟩⟩⟩⟩⟩⟩⟩⟩⟩⟩⟩⟩⟩⟩⟩⟩) _ rfl
theorem gg7_0 (hx : p.tables.exec = Jvm.exec) (hb : c.code = cc) (hts : ∀ w ∈ WA, w.before args s = true) {own : String} {index k : Nat} (hown : s.vm.findClass own = some m.cls) (hK : va_K G.1 vwCl (tyL G) s) (hI : Inv G kd ad H0 M H locs) (hk : kd k = (7, 0)) (hlink : Cond.fieldLink own index "SheetFolderModel" "s" "[I" ∈ WA) (hdg : decode cc pc = .ok (.getfield index, 3)) (kk : W p l e R s m args below meth c H locs cells slots Q (F0 m (pc + 3) ls (.ref (ad (k + 1)) :: rest))) : W p l e R s m args below meth c H locs cells slots Q (F0 m pc ls (.ref (ad k) :: rest)) :=
  g_get hx hb hts inW7 hown hK hI hk (by simp) rfl rfl 0 (by decide) ⟨rfl, rfl, rfl⟩ hlink rfl hdg kk
theorem gg7_1 (hx : p.tables.exec = Jvm.exec) (hb : c.code = cc) (hts : ∀ w ∈ WA, w.before args s = true) {own : String} {index k : Nat} (hown : s.vm.findClass own = some m.cls) (hK : va_K G.1 vwCl (tyL G) s) (hI : Inv G kd ad H0 M H locs) (hk : kd k = (7, 0)) (hlink : Cond.fieldLink own index "SheetFolderModel" "parsed" "[I" ∈ WA) (hdg : decode cc pc = .ok (.getfield index, 3)) (kk : W p l e R s m args below meth c H locs cells slots Q (F0 m (pc + 3) ls (.ref (ad (k + 2)) :: rest))) : W p l e R s m args below meth c H locs cells slots Q (F0 m pc ls (.ref (ad k) :: rest)) :=
  g_get hx hb hts inW7 hown hK hI hk (by simp) rfl rfl 1 (by decide) ⟨rfl, rfl, rfl⟩ hlink rfl hdg kk
theorem gg7_3 (hx : p.tables.exec = Jvm.exec) (hb : c.code = cc) (hts : ∀ w ∈ WA, w.before args s = true) {own : String} {index k : Nat} (hown : s.vm.findClass own = some m.cls) (hK : va_K G.1 vwCl (tyL G) s) (hI : Inv G kd ad H0 M H locs) (hk : kd k = (7, 0)) (hlink : Cond.fieldLink own index "SheetFolderModel" "history" "[I" ∈ WA) (hdg : decode cc pc = .ok (.getfield index, 3)) (kk : W p l e R s m args below meth c H locs cells slots Q (F0 m (pc + 3) ls (.ref (ad (k + 4)) :: rest))) : W p l e R s m args below meth c H locs cells slots Q (F0 m pc ls (.ref (ad k) :: rest)) :=
  g_get hx hb hts inW7 hown hK hI hk (by simp) rfl rfl 3 (by decide) ⟨rfl, rfl, rfl⟩ hlink rfl hdg kk
theorem gg7_4 (hx : p.tables.exec = Jvm.exec) (hb : c.code = cc) (hts : ∀ w ∈ WA, w.before args s = true) {own : String} {index k : Nat} (hown : s.vm.findClass own = some m.cls) (hK : va_K G.1 vwCl (tyL G) s) (hI : Inv G kd ad H0 M H locs) (hk : kd k = (7, 0)) (hlink : Cond.fieldLink own index "SheetFolderModel" "edits" "I" ∈ WA) (hdg : decode cc pc = .ok (.getfield index, 3)) (kk : W p l e R s m args below meth c H locs cells slots Q (F0 m (pc + 3) ls (.int (rd M k 4) :: rest))) : W p l e R s m args below meth c H locs cells slots Q (F0 m pc ls (.ref (ad k) :: rest)) :=
  g_get hx hb hts inW7 hown hK hI hk (by simp) rfl rfl 4 (by decide) ⟨rfl, rfl, rfl⟩ hlink rfl hdg kk
theorem gp7_4 (hx : p.tables.exec = Jvm.exec) (hb : c.code = cc) (hts : ∀ w ∈ WA, w.before args s = true) {own : String} {index k : Nat} (hown : s.vm.findClass own = some m.cls) (hK : va_K G.1 vwCl (tyL G) s) (hap : Apt kd ad) (hI : Inv G kd ad H0 M H locs) (hk : kd k = (7, 0)) (hlink : Cond.fieldLink own index "SheetFolderModel" "edits" "I" ∈ WA) {v : Int32} (hdg : decode cc pc = .ok (.putfield index, 3)) {M' : Mem} (hM : M' = wr M k 4 v) (kk : ∀ (H1 : Heap) (locs1 : List Loc), Inv G kd ad H0 M' H1 locs1 → W p l e R s m args below meth c H1 locs1 cells slots Q (F0 m (pc + 3) ls rest)) : W p l e R s m args below meth c H locs cells slots Q (F0 m pc ls (.int v :: .ref (ad k) :: rest)) := by
  subst hM
  exact g_put hx hb hts inW7 tyX7 tyX7_ok nmX7 hown hK hap hI hk (by simp) rfl rfl 4 (by decide) ⟨rfl, rfl, rfl⟩ hlink rfl (ty := .int) (by decide +kernel) rfl rfl (Nat.le_of_ble_eq_true rfl) (by rw [wr_s]; rfl) wr_o hdg kk
theorem gg7_5 (hx : p.tables.exec = Jvm.exec) (hb : c.code = cc) (hts : ∀ w ∈ WA, w.before args s = true) {own : String} {index k : Nat} (hown : s.vm.findClass own = some m.cls) (hK : va_K G.1 vwCl (tyL G) s) (hI : Inv G kd ad H0 M H locs) (hk : kd k = (7, 0)) (hlink : Cond.fieldLink own index "SheetFolderModel" "thrown" "I" ∈ WA) (hdg : decode cc pc = .ok (.getfield index, 3)) (kk : W p l e R s m args below meth c H locs cells slots Q (F0 m (pc + 3) ls (.int (rd M k 5) :: rest))) : W p l e R s m args below meth c H locs cells slots Q (F0 m pc ls (.ref (ad k) :: rest)) :=
  g_get hx hb hts inW7 hown hK hI hk (by simp) rfl rfl 5 (by decide) ⟨rfl, rfl, rfl⟩ hlink rfl hdg kk
theorem gp7_5 (hx : p.tables.exec = Jvm.exec) (hb : c.code = cc) (hts : ∀ w ∈ WA, w.before args s = true) {own : String} {index k : Nat} (hown : s.vm.findClass own = some m.cls) (hK : va_K G.1 vwCl (tyL G) s) (hap : Apt kd ad) (hI : Inv G kd ad H0 M H locs) (hk : kd k = (7, 0)) (hlink : Cond.fieldLink own index "SheetFolderModel" "thrown" "I" ∈ WA) {v : Int32} (hdg : decode cc pc = .ok (.putfield index, 3)) {M' : Mem} (hM : M' = wr M k 5 v) (kk : ∀ (H1 : Heap) (locs1 : List Loc), Inv G kd ad H0 M' H1 locs1 → W p l e R s m args below meth c H1 locs1 cells slots Q (F0 m (pc + 3) ls rest)) : W p l e R s m args below meth c H locs cells slots Q (F0 m pc ls (.int v :: .ref (ad k) :: rest)) := by
  subst hM
  exact g_put hx hb hts inW7 tyX7 tyX7_ok nmX7 hown hK hap hI hk (by simp) rfl rfl 5 (by decide) ⟨rfl, rfl, rfl⟩ hlink rfl (ty := .int) (by decide +kernel) rfl rfl (Nat.le_of_ble_eq_true rfl) (by rw [wr_s]; rfl) wr_o hdg kk
theorem gg7_6 (hx : p.tables.exec = Jvm.exec) (hb : c.code = cc) (hts : ∀ w ∈ WA, w.before args s = true) {own : String} {index k : Nat} (hown : s.vm.findClass own = some m.cls) (hK : va_K G.1 vwCl (tyL G) s) (hI : Inv G kd ad H0 M H locs) (hk : kd k = (7, 0)) (hlink : Cond.fieldLink own index "SheetFolderModel" "buffer" "[I" ∈ WA) (hdg : decode cc pc = .ok (.getfield index, 3)) (kk : W p l e R s m args below meth c H locs cells slots Q (F0 m (pc + 3) ls (.ref (ad (k + 5)) :: rest))) : W p l e R s m args below meth c H locs cells slots Q (F0 m pc ls (.ref (ad k) :: rest)) :=
  g_get hx hb hts inW7 hown hK hI hk (by simp) rfl rfl 6 (by decide) ⟨rfl, rfl, rfl⟩ hlink rfl hdg kk
theorem gg7_7 (hx : p.tables.exec = Jvm.exec) (hb : c.code = cc) (hts : ∀ w ∈ WA, w.before args s = true) {own : String} {index k : Nat} (hown : s.vm.findClass own = some m.cls) (hK : va_K G.1 vwCl (tyL G) s) (hI : Inv G kd ad H0 M H locs) (hk : kd k = (7, 0)) (hlink : Cond.fieldLink own index "SheetFolderModel" "buffered" "I" ∈ WA) (hdg : decode cc pc = .ok (.getfield index, 3)) (kk : W p l e R s m args below meth c H locs cells slots Q (F0 m (pc + 3) ls (.int (rd M k 7) :: rest))) : W p l e R s m args below meth c H locs cells slots Q (F0 m pc ls (.ref (ad k) :: rest)) :=
  g_get hx hb hts inW7 hown hK hI hk (by simp) rfl rfl 7 (by decide) ⟨rfl, rfl, rfl⟩ hlink rfl hdg kk
theorem gp7_7 (hx : p.tables.exec = Jvm.exec) (hb : c.code = cc) (hts : ∀ w ∈ WA, w.before args s = true) {own : String} {index k : Nat} (hown : s.vm.findClass own = some m.cls) (hK : va_K G.1 vwCl (tyL G) s) (hap : Apt kd ad) (hI : Inv G kd ad H0 M H locs) (hk : kd k = (7, 0)) (hlink : Cond.fieldLink own index "SheetFolderModel" "buffered" "I" ∈ WA) {v : Int32} (hdg : decode cc pc = .ok (.putfield index, 3)) {M' : Mem} (hM : M' = wr M k 7 v) (kk : ∀ (H1 : Heap) (locs1 : List Loc), Inv G kd ad H0 M' H1 locs1 → W p l e R s m args below meth c H1 locs1 cells slots Q (F0 m (pc + 3) ls rest)) : W p l e R s m args below meth c H locs cells slots Q (F0 m pc ls (.int v :: .ref (ad k) :: rest)) := by
  subst hM
  exact g_put hx hb hts inW7 tyX7 tyX7_ok nmX7 hown hK hap hI hk (by simp) rfl rfl 7 (by decide) ⟨rfl, rfl, rfl⟩ hlink rfl (ty := .int) (by decide +kernel) rfl rfl (Nat.le_of_ble_eq_true rfl) (by rw [wr_s]; rfl) wr_o hdg kk
theorem gg7_8 (hx : p.tables.exec = Jvm.exec) (hb : c.code = cc) (hts : ∀ w ∈ WA, w.before args s = true) {own : String} {index k : Nat} (hown : s.vm.findClass own = some m.cls) (hK : va_K G.1 vwCl (tyL G) s) (hI : Inv G kd ad H0 M H locs) (hk : kd k = (7, 0)) (hlink : Cond.fieldLink own index "SheetFolderModel" "errorKind" "I" ∈ WA) (hdg : decode cc pc = .ok (.getfield index, 3)) (kk : W p l e R s m args below meth c H locs cells slots Q (F0 m (pc + 3) ls (.int (rd M k 8) :: rest))) : W p l e R s m args below meth c H locs cells slots Q (F0 m pc ls (.ref (ad k) :: rest)) :=
  g_get hx hb hts inW7 hown hK hI hk (by simp) rfl rfl 8 (by decide) ⟨rfl, rfl, rfl⟩ hlink rfl hdg kk
theorem gp7_8 (hx : p.tables.exec = Jvm.exec) (hb : c.code = cc) (hts : ∀ w ∈ WA, w.before args s = true) {own : String} {index k : Nat} (hown : s.vm.findClass own = some m.cls) (hK : va_K G.1 vwCl (tyL G) s) (hap : Apt kd ad) (hI : Inv G kd ad H0 M H locs) (hk : kd k = (7, 0)) (hlink : Cond.fieldLink own index "SheetFolderModel" "errorKind" "I" ∈ WA) {v : Int32} (hdg : decode cc pc = .ok (.putfield index, 3)) {M' : Mem} (hM : M' = wr M k 8 v) (kk : ∀ (H1 : Heap) (locs1 : List Loc), Inv G kd ad H0 M' H1 locs1 → W p l e R s m args below meth c H1 locs1 cells slots Q (F0 m (pc + 3) ls rest)) : W p l e R s m args below meth c H locs cells slots Q (F0 m pc ls (.int v :: .ref (ad k) :: rest)) := by
  subst hM
  exact g_put hx hb hts inW7 tyX7 tyX7_ok nmX7 hown hK hap hI hk (by simp) rfl rfl 8 (by decide) ⟨rfl, rfl, rfl⟩ hlink rfl (ty := .int) (by decide +kernel) rfl rfl (Nat.le_of_ble_eq_true rfl) (by rw [wr_s]; rfl) wr_o hdg kk
theorem gg7_9 (hx : p.tables.exec = Jvm.exec) (hb : c.code = cc) (hts : ∀ w ∈ WA, w.before args s = true) {own : String} {index k : Nat} (hown : s.vm.findClass own = some m.cls) (hK : va_K G.1 vwCl (tyL G) s) (hI : Inv G kd ad H0 M H locs) (hk : kd k = (7, 0)) (hlink : Cond.fieldLink own index "SheetFolderModel" "errorPosition" "I" ∈ WA) (hdg : decode cc pc = .ok (.getfield index, 3)) (kk : W p l e R s m args below meth c H locs cells slots Q (F0 m (pc + 3) ls (.int (rd M k 9) :: rest))) : W p l e R s m args below meth c H locs cells slots Q (F0 m pc ls (.ref (ad k) :: rest)) :=
  g_get hx hb hts inW7 hown hK hI hk (by simp) rfl rfl 9 (by decide) ⟨rfl, rfl, rfl⟩ hlink rfl hdg kk
theorem gp7_9 (hx : p.tables.exec = Jvm.exec) (hb : c.code = cc) (hts : ∀ w ∈ WA, w.before args s = true) {own : String} {index k : Nat} (hown : s.vm.findClass own = some m.cls) (hK : va_K G.1 vwCl (tyL G) s) (hap : Apt kd ad) (hI : Inv G kd ad H0 M H locs) (hk : kd k = (7, 0)) (hlink : Cond.fieldLink own index "SheetFolderModel" "errorPosition" "I" ∈ WA) {v : Int32} (hdg : decode cc pc = .ok (.putfield index, 3)) {M' : Mem} (hM : M' = wr M k 9 v) (kk : ∀ (H1 : Heap) (locs1 : List Loc), Inv G kd ad H0 M' H1 locs1 → W p l e R s m args below meth c H1 locs1 cells slots Q (F0 m (pc + 3) ls rest)) : W p l e R s m args below meth c H locs cells slots Q (F0 m pc ls (.int v :: .ref (ad k) :: rest)) := by
  subst hM
  exact g_put hx hb hts inW7 tyX7 tyX7_ok nmX7 hown hK hap hI hk (by simp) rfl rfl 9 (by decide) ⟨rfl, rfl, rfl⟩ hlink rfl (ty := .int) (by decide +kernel) rfl rfl (Nat.le_of_ble_eq_true rfl) (by rw [wr_s]; rfl) wr_o hdg kk
theorem gg7_10 (hx : p.tables.exec = Jvm.exec) (hb : c.code = cc) (hts : ∀ w ∈ WA, w.before args s = true) {own : String} {index k : Nat} (hown : s.vm.findClass own = some m.cls) (hK : va_K G.1 vwCl (tyL G) s) (hI : Inv G kd ad H0 M H locs) (hk : kd k = (7, 0)) (hlink : Cond.fieldLink own index "SheetFolderModel" "length" "I" ∈ WA) (hdg : decode cc pc = .ok (.getfield index, 3)) (kk : W p l e R s m args below meth c H locs cells slots Q (F0 m (pc + 3) ls (.int (rd M k 10) :: rest))) : W p l e R s m args below meth c H locs cells slots Q (F0 m pc ls (.ref (ad k) :: rest)) :=
  g_get hx hb hts inW7 hown hK hI hk (by simp) rfl rfl 10 (by decide) ⟨rfl, rfl, rfl⟩ hlink rfl hdg kk
theorem gp7_10 (hx : p.tables.exec = Jvm.exec) (hb : c.code = cc) (hts : ∀ w ∈ WA, w.before args s = true) {own : String} {index k : Nat} (hown : s.vm.findClass own = some m.cls) (hK : va_K G.1 vwCl (tyL G) s) (hap : Apt kd ad) (hI : Inv G kd ad H0 M H locs) (hk : kd k = (7, 0)) (hlink : Cond.fieldLink own index "SheetFolderModel" "length" "I" ∈ WA) {v : Int32} (hdg : decode cc pc = .ok (.putfield index, 3)) {M' : Mem} (hM : M' = wr M k 10 v) (kk : ∀ (H1 : Heap) (locs1 : List Loc), Inv G kd ad H0 M' H1 locs1 → W p l e R s m args below meth c H1 locs1 cells slots Q (F0 m (pc + 3) ls rest)) : W p l e R s m args below meth c H locs cells slots Q (F0 m pc ls (.int v :: .ref (ad k) :: rest)) := by
  subst hM
  exact g_put hx hb hts inW7 tyX7 tyX7_ok nmX7 hown hK hap hI hk (by simp) rfl rfl 10 (by decide) ⟨rfl, rfl, rfl⟩ hlink rfl (ty := .int) (by decide +kernel) rfl rfl (Nat.le_of_ble_eq_true rfl) (by rw [wr_s]; rfl) wr_o hdg kk
theorem gg7_11 (hx : p.tables.exec = Jvm.exec) (hb : c.code = cc) (hts : ∀ w ∈ WA, w.before args s = true) {own : String} {index k : Nat} (hown : s.vm.findClass own = some m.cls) (hK : va_K G.1 vwCl (tyL G) s) (hI : Inv G kd ad H0 M H locs) (hk : kd k = (7, 0)) (hlink : Cond.fieldLink own index "SheetFolderModel" "start" "I" ∈ WA) (hdg : decode cc pc = .ok (.getfield index, 3)) (kk : W p l e R s m args below meth c H locs cells slots Q (F0 m (pc + 3) ls (.int (rd M k 11) :: rest))) : W p l e R s m args below meth c H locs cells slots Q (F0 m pc ls (.ref (ad k) :: rest)) :=
  g_get hx hb hts inW7 hown hK hI hk (by simp) rfl rfl 11 (by decide) ⟨rfl, rfl, rfl⟩ hlink rfl hdg kk
theorem gp7_11 (hx : p.tables.exec = Jvm.exec) (hb : c.code = cc) (hts : ∀ w ∈ WA, w.before args s = true) {own : String} {index k : Nat} (hown : s.vm.findClass own = some m.cls) (hK : va_K G.1 vwCl (tyL G) s) (hap : Apt kd ad) (hI : Inv G kd ad H0 M H locs) (hk : kd k = (7, 0)) (hlink : Cond.fieldLink own index "SheetFolderModel" "start" "I" ∈ WA) {v : Int32} (hdg : decode cc pc = .ok (.putfield index, 3)) {M' : Mem} (hM : M' = wr M k 11 v) (kk : ∀ (H1 : Heap) (locs1 : List Loc), Inv G kd ad H0 M' H1 locs1 → W p l e R s m args below meth c H1 locs1 cells slots Q (F0 m (pc + 3) ls rest)) : W p l e R s m args below meth c H locs cells slots Q (F0 m pc ls (.int v :: .ref (ad k) :: rest)) := by
  subst hM
  exact g_put hx hb hts inW7 tyX7 tyX7_ok nmX7 hown hK hap hI hk (by simp) rfl rfl 11 (by decide) ⟨rfl, rfl, rfl⟩ hlink rfl (ty := .int) (by decide +kernel) rfl rfl (Nat.le_of_ble_eq_true rfl) (by rw [wr_s]; rfl) wr_o hdg kk
theorem gg7_12 (hx : p.tables.exec = Jvm.exec) (hb : c.code = cc) (hts : ∀ w ∈ WA, w.before args s = true) {own : String} {index k : Nat} (hown : s.vm.findClass own = some m.cls) (hK : va_K G.1 vwCl (tyL G) s) (hI : Inv G kd ad H0 M H locs) (hk : kd k = (7, 0)) (hlink : Cond.fieldLink own index "SheetFolderModel" "next" "I" ∈ WA) (hdg : decode cc pc = .ok (.getfield index, 3)) (kk : W p l e R s m args below meth c H locs cells slots Q (F0 m (pc + 3) ls (.int (rd M k 12) :: rest))) : W p l e R s m args below meth c H locs cells slots Q (F0 m pc ls (.ref (ad k) :: rest)) :=
  g_get hx hb hts inW7 hown hK hI hk (by simp) rfl rfl 12 (by decide) ⟨rfl, rfl, rfl⟩ hlink rfl hdg kk
theorem gp7_12 (hx : p.tables.exec = Jvm.exec) (hb : c.code = cc) (hts : ∀ w ∈ WA, w.before args s = true) {own : String} {index k : Nat} (hown : s.vm.findClass own = some m.cls) (hK : va_K G.1 vwCl (tyL G) s) (hap : Apt kd ad) (hI : Inv G kd ad H0 M H locs) (hk : kd k = (7, 0)) (hlink : Cond.fieldLink own index "SheetFolderModel" "next" "I" ∈ WA) {v : Int32} (hdg : decode cc pc = .ok (.putfield index, 3)) {M' : Mem} (hM : M' = wr M k 12 v) (kk : ∀ (H1 : Heap) (locs1 : List Loc), Inv G kd ad H0 M' H1 locs1 → W p l e R s m args below meth c H1 locs1 cells slots Q (F0 m (pc + 3) ls rest)) : W p l e R s m args below meth c H locs cells slots Q (F0 m pc ls (.int v :: .ref (ad k) :: rest)) := by
  subst hM
  exact g_put hx hb hts inW7 tyX7 tyX7_ok nmX7 hown hK hap hI hk (by simp) rfl rfl 12 (by decide) ⟨rfl, rfl, rfl⟩ hlink rfl (ty := .int) (by decide +kernel) rfl rfl (Nat.le_of_ble_eq_true rfl) (by rw [wr_s]; rfl) wr_o hdg kk
theorem gg7_13 (hx : p.tables.exec = Jvm.exec) (hb : c.code = cc) (hts : ∀ w ∈ WA, w.before args s = true) {own : String} {index k : Nat} (hown : s.vm.findClass own = some m.cls) (hK : va_K G.1 vwCl (tyL G) s) (hI : Inv G kd ad H0 M H locs) (hk : kd k = (7, 0)) (hlink : Cond.fieldLink own index "SheetFolderModel" "token" "I" ∈ WA) (hdg : decode cc pc = .ok (.getfield index, 3)) (kk : W p l e R s m args below meth c H locs cells slots Q (F0 m (pc + 3) ls (.int (rd M k 13) :: rest))) : W p l e R s m args below meth c H locs cells slots Q (F0 m pc ls (.ref (ad k) :: rest)) :=
  g_get hx hb hts inW7 hown hK hI hk (by simp) rfl rfl 13 (by decide) ⟨rfl, rfl, rfl⟩ hlink rfl hdg kk
theorem gp7_13 (hx : p.tables.exec = Jvm.exec) (hb : c.code = cc) (hts : ∀ w ∈ WA, w.before args s = true) {own : String} {index k : Nat} (hown : s.vm.findClass own = some m.cls) (hK : va_K G.1 vwCl (tyL G) s) (hap : Apt kd ad) (hI : Inv G kd ad H0 M H locs) (hk : kd k = (7, 0)) (hlink : Cond.fieldLink own index "SheetFolderModel" "token" "I" ∈ WA) {v : Int32} (hdg : decode cc pc = .ok (.putfield index, 3)) {M' : Mem} (hM : M' = wr M k 13 v) (kk : ∀ (H1 : Heap) (locs1 : List Loc), Inv G kd ad H0 M' H1 locs1 → W p l e R s m args below meth c H1 locs1 cells slots Q (F0 m (pc + 3) ls rest)) : W p l e R s m args below meth c H locs cells slots Q (F0 m pc ls (.int v :: .ref (ad k) :: rest)) := by
  subst hM
  exact g_put hx hb hts inW7 tyX7 tyX7_ok nmX7 hown hK hap hI hk (by simp) rfl rfl 13 (by decide) ⟨rfl, rfl, rfl⟩ hlink rfl (ty := .int) (by decide +kernel) rfl rfl (Nat.le_of_ble_eq_true rfl) (by rw [wr_s]; rfl) wr_o hdg kk
theorem gg7_14 (hx : p.tables.exec = Jvm.exec) (hb : c.code = cc) (hts : ∀ w ∈ WA, w.before args s = true) {own : String} {index k : Nat} (hown : s.vm.findClass own = some m.cls) (hK : va_K G.1 vwCl (tyL G) s) (hI : Inv G kd ad H0 M H locs) (hk : kd k = (7, 0)) (hlink : Cond.fieldLink own index "SheetFolderModel" "value" "I" ∈ WA) (hdg : decode cc pc = .ok (.getfield index, 3)) (kk : W p l e R s m args below meth c H locs cells slots Q (F0 m (pc + 3) ls (.int (rd M k 14) :: rest))) : W p l e R s m args below meth c H locs cells slots Q (F0 m pc ls (.ref (ad k) :: rest)) :=
  g_get hx hb hts inW7 hown hK hI hk (by simp) rfl rfl 14 (by decide) ⟨rfl, rfl, rfl⟩ hlink rfl hdg kk
theorem gp7_14 (hx : p.tables.exec = Jvm.exec) (hb : c.code = cc) (hts : ∀ w ∈ WA, w.before args s = true) {own : String} {index k : Nat} (hown : s.vm.findClass own = some m.cls) (hK : va_K G.1 vwCl (tyL G) s) (hap : Apt kd ad) (hI : Inv G kd ad H0 M H locs) (hk : kd k = (7, 0)) (hlink : Cond.fieldLink own index "SheetFolderModel" "value" "I" ∈ WA) {v : Int32} (hdg : decode cc pc = .ok (.putfield index, 3)) {M' : Mem} (hM : M' = wr M k 14 v) (kk : ∀ (H1 : Heap) (locs1 : List Loc), Inv G kd ad H0 M' H1 locs1 → W p l e R s m args below meth c H1 locs1 cells slots Q (F0 m (pc + 3) ls rest)) : W p l e R s m args below meth c H locs cells slots Q (F0 m pc ls (.int v :: .ref (ad k) :: rest)) := by
  subst hM
  exact g_put hx hb hts inW7 tyX7 tyX7_ok nmX7 hown hK hap hI hk (by simp) rfl rfl 14 (by decide) ⟨rfl, rfl, rfl⟩ hlink rfl (ty := .int) (by decide +kernel) rfl rfl (Nat.le_of_ble_eq_true rfl) (by rw [wr_s]; rfl) wr_o hdg kk
theorem gg7_15 (hx : p.tables.exec = Jvm.exec) (hb : c.code = cc) (hts : ∀ w ∈ WA, w.before args s = true) {own : String} {index k : Nat} (hown : s.vm.findClass own = some m.cls) (hK : va_K G.1 vwCl (tyL G) s) (hI : Inv G kd ad H0 M H locs) (hk : kd k = (7, 0)) (hlink : Cond.fieldLink own index "SheetFolderModel" "kind" "I" ∈ WA) (hdg : decode cc pc = .ok (.getfield index, 3)) (kk : W p l e R s m args below meth c H locs cells slots Q (F0 m (pc + 3) ls (.int (rd M k 15) :: rest))) : W p l e R s m args below meth c H locs cells slots Q (F0 m pc ls (.ref (ad k) :: rest)) :=
  g_get hx hb hts inW7 hown hK hI hk (by simp) rfl rfl 15 (by decide) ⟨rfl, rfl, rfl⟩ hlink rfl hdg kk
theorem gp7_15 (hx : p.tables.exec = Jvm.exec) (hb : c.code = cc) (hts : ∀ w ∈ WA, w.before args s = true) {own : String} {index k : Nat} (hown : s.vm.findClass own = some m.cls) (hK : va_K G.1 vwCl (tyL G) s) (hap : Apt kd ad) (hI : Inv G kd ad H0 M H locs) (hk : kd k = (7, 0)) (hlink : Cond.fieldLink own index "SheetFolderModel" "kind" "I" ∈ WA) {v : Int32} (hdg : decode cc pc = .ok (.putfield index, 3)) {M' : Mem} (hM : M' = wr M k 15 v) (kk : ∀ (H1 : Heap) (locs1 : List Loc), Inv G kd ad H0 M' H1 locs1 → W p l e R s m args below meth c H1 locs1 cells slots Q (F0 m (pc + 3) ls rest)) : W p l e R s m args below meth c H locs cells slots Q (F0 m pc ls (.int v :: .ref (ad k) :: rest)) := by
  subst hM
  exact g_put hx hb hts inW7 tyX7 tyX7_ok nmX7 hown hK hap hI hk (by simp) rfl rfl 15 (by decide) ⟨rfl, rfl, rfl⟩ hlink rfl (ty := .int) (by decide +kernel) rfl rfl (Nat.le_of_ble_eq_true rfl) (by rw [wr_s]; rfl) wr_o hdg kk
theorem gg7_16 (hx : p.tables.exec = Jvm.exec) (hb : c.code = cc) (hts : ∀ w ∈ WA, w.before args s = true) {own : String} {index k : Nat} (hown : s.vm.findClass own = some m.cls) (hK : va_K G.1 vwCl (tyL G) s) (hI : Inv G kd ad H0 M H locs) (hk : kd k = (7, 0)) (hlink : Cond.fieldLink own index "SheetFolderModel" "position" "I" ∈ WA) (hdg : decode cc pc = .ok (.getfield index, 3)) (kk : W p l e R s m args below meth c H locs cells slots Q (F0 m (pc + 3) ls (.int (rd M k 16) :: rest))) : W p l e R s m args below meth c H locs cells slots Q (F0 m pc ls (.ref (ad k) :: rest)) :=
  g_get hx hb hts inW7 hown hK hI hk (by simp) rfl rfl 16 (by decide) ⟨rfl, rfl, rfl⟩ hlink rfl hdg kk
theorem gp7_16 (hx : p.tables.exec = Jvm.exec) (hb : c.code = cc) (hts : ∀ w ∈ WA, w.before args s = true) {own : String} {index k : Nat} (hown : s.vm.findClass own = some m.cls) (hK : va_K G.1 vwCl (tyL G) s) (hap : Apt kd ad) (hI : Inv G kd ad H0 M H locs) (hk : kd k = (7, 0)) (hlink : Cond.fieldLink own index "SheetFolderModel" "position" "I" ∈ WA) {v : Int32} (hdg : decode cc pc = .ok (.putfield index, 3)) {M' : Mem} (hM : M' = wr M k 16 v) (kk : ∀ (H1 : Heap) (locs1 : List Loc), Inv G kd ad H0 M' H1 locs1 → W p l e R s m args below meth c H1 locs1 cells slots Q (F0 m (pc + 3) ls rest)) : W p l e R s m args below meth c H locs cells slots Q (F0 m pc ls (.int v :: .ref (ad k) :: rest)) := by
  subst hM
  exact g_put hx hb hts inW7 tyX7 tyX7_ok nmX7 hown hK hap hI hk (by simp) rfl rfl 16 (by decide) ⟨rfl, rfl, rfl⟩ hlink rfl (ty := .int) (by decide +kernel) rfl rfl (Nat.le_of_ble_eq_true rfl) (by rw [wr_s]; rfl) wr_o hdg kk
theorem gg7_17 (hx : p.tables.exec = Jvm.exec) (hb : c.code = cc) (hts : ∀ w ∈ WA, w.before args s = true) {own : String} {index k : Nat} (hown : s.vm.findClass own = some m.cls) (hK : va_K G.1 vwCl (tyL G) s) (hI : Inv G kd ad H0 M H locs) (hk : kd k = (7, 0)) (hlink : Cond.fieldLink own index "SheetFolderModel" "fromX" "[I" ∈ WA) (hdg : decode cc pc = .ok (.getfield index, 3)) (kk : W p l e R s m args below meth c H locs cells slots Q (F0 m (pc + 3) ls (.ref (ad (k + 6)) :: rest))) : W p l e R s m args below meth c H locs cells slots Q (F0 m pc ls (.ref (ad k) :: rest)) :=
  g_get hx hb hts inW7 hown hK hI hk (by simp) rfl rfl 17 (by decide) ⟨rfl, rfl, rfl⟩ hlink rfl hdg kk
theorem gg7_18 (hx : p.tables.exec = Jvm.exec) (hb : c.code = cc) (hts : ∀ w ∈ WA, w.before args s = true) {own : String} {index k : Nat} (hown : s.vm.findClass own = some m.cls) (hK : va_K G.1 vwCl (tyL G) s) (hI : Inv G kd ad H0 M H locs) (hk : kd k = (7, 0)) (hlink : Cond.fieldLink own index "SheetFolderModel" "fromY" "[I" ∈ WA) (hdg : decode cc pc = .ok (.getfield index, 3)) (kk : W p l e R s m args below meth c H locs cells slots Q (F0 m (pc + 3) ls (.ref (ad (k + 7)) :: rest))) : W p l e R s m args below meth c H locs cells slots Q (F0 m pc ls (.ref (ad k) :: rest)) :=
  g_get hx hb hts inW7 hown hK hI hk (by simp) rfl rfl 18 (by decide) ⟨rfl, rfl, rfl⟩ hlink rfl hdg kk
theorem gg7_19 (hx : p.tables.exec = Jvm.exec) (hb : c.code = cc) (hts : ∀ w ∈ WA, w.before args s = true) {own : String} {index k : Nat} (hown : s.vm.findClass own = some m.cls) (hK : va_K G.1 vwCl (tyL G) s) (hI : Inv G kd ad H0 M H locs) (hk : kd k = (7, 0)) (hlink : Cond.fieldLink own index "SheetFolderModel" "toX" "[I" ∈ WA) (hdg : decode cc pc = .ok (.getfield index, 3)) (kk : W p l e R s m args below meth c H locs cells slots Q (F0 m (pc + 3) ls (.ref (ad (k + 8)) :: rest))) : W p l e R s m args below meth c H locs cells slots Q (F0 m pc ls (.ref (ad k) :: rest)) :=
  g_get hx hb hts inW7 hown hK hI hk (by simp) rfl rfl 19 (by decide) ⟨rfl, rfl, rfl⟩ hlink rfl hdg kk
theorem gg7_20 (hx : p.tables.exec = Jvm.exec) (hb : c.code = cc) (hts : ∀ w ∈ WA, w.before args s = true) {own : String} {index k : Nat} (hown : s.vm.findClass own = some m.cls) (hK : va_K G.1 vwCl (tyL G) s) (hI : Inv G kd ad H0 M H locs) (hk : kd k = (7, 0)) (hlink : Cond.fieldLink own index "SheetFolderModel" "toY" "[I" ∈ WA) (hdg : decode cc pc = .ok (.getfield index, 3)) (kk : W p l e R s m args below meth c H locs cells slots Q (F0 m (pc + 3) ls (.ref (ad (k + 9)) :: rest))) : W p l e R s m args below meth c H locs cells slots Q (F0 m pc ls (.ref (ad k) :: rest)) :=
  g_get hx hb hts inW7 hown hK hI hk (by simp) rfl rfl 20 (by decide) ⟨rfl, rfl, rfl⟩ hlink rfl hdg kk
theorem gg7_21 (hx : p.tables.exec = Jvm.exec) (hb : c.code = cc) (hts : ∀ w ∈ WA, w.before args s = true) {own : String} {index k : Nat} (hown : s.vm.findClass own = some m.cls) (hK : va_K G.1 vwCl (tyL G) s) (hI : Inv G kd ad H0 M H locs) (hk : kd k = (7, 0)) (hlink : Cond.fieldLink own index "SheetFolderModel" "x" "I" ∈ WA) (hdg : decode cc pc = .ok (.getfield index, 3)) (kk : W p l e R s m args below meth c H locs cells slots Q (F0 m (pc + 3) ls (.int (rd M k 21) :: rest))) : W p l e R s m args below meth c H locs cells slots Q (F0 m pc ls (.ref (ad k) :: rest)) :=
  g_get hx hb hts inW7 hown hK hI hk (by simp) rfl rfl 21 (by decide) ⟨rfl, rfl, rfl⟩ hlink rfl hdg kk
theorem gp7_21 (hx : p.tables.exec = Jvm.exec) (hb : c.code = cc) (hts : ∀ w ∈ WA, w.before args s = true) {own : String} {index k : Nat} (hown : s.vm.findClass own = some m.cls) (hK : va_K G.1 vwCl (tyL G) s) (hap : Apt kd ad) (hI : Inv G kd ad H0 M H locs) (hk : kd k = (7, 0)) (hlink : Cond.fieldLink own index "SheetFolderModel" "x" "I" ∈ WA) {v : Int32} (hdg : decode cc pc = .ok (.putfield index, 3)) {M' : Mem} (hM : M' = wr M k 21 v) (kk : ∀ (H1 : Heap) (locs1 : List Loc), Inv G kd ad H0 M' H1 locs1 → W p l e R s m args below meth c H1 locs1 cells slots Q (F0 m (pc + 3) ls rest)) : W p l e R s m args below meth c H locs cells slots Q (F0 m pc ls (.int v :: .ref (ad k) :: rest)) := by
  subst hM
  exact g_put hx hb hts inW7 tyX7 tyX7_ok nmX7 hown hK hap hI hk (by simp) rfl rfl 21 (by decide) ⟨rfl, rfl, rfl⟩ hlink rfl (ty := .int) (by decide +kernel) rfl rfl (Nat.le_of_ble_eq_true rfl) (by rw [wr_s]; rfl) wr_o hdg kk
theorem gg7_22 (hx : p.tables.exec = Jvm.exec) (hb : c.code = cc) (hts : ∀ w ∈ WA, w.before args s = true) {own : String} {index k : Nat} (hown : s.vm.findClass own = some m.cls) (hK : va_K G.1 vwCl (tyL G) s) (hI : Inv G kd ad H0 M H locs) (hk : kd k = (7, 0)) (hlink : Cond.fieldLink own index "SheetFolderModel" "y" "I" ∈ WA) (hdg : decode cc pc = .ok (.getfield index, 3)) (kk : W p l e R s m args below meth c H locs cells slots Q (F0 m (pc + 3) ls (.int (rd M k 22) :: rest))) : W p l e R s m args below meth c H locs cells slots Q (F0 m pc ls (.ref (ad k) :: rest)) :=
  g_get hx hb hts inW7 hown hK hI hk (by simp) rfl rfl 22 (by decide) ⟨rfl, rfl, rfl⟩ hlink rfl hdg kk
theorem gp7_22 (hx : p.tables.exec = Jvm.exec) (hb : c.code = cc) (hts : ∀ w ∈ WA, w.before args s = true) {own : String} {index k : Nat} (hown : s.vm.findClass own = some m.cls) (hK : va_K G.1 vwCl (tyL G) s) (hap : Apt kd ad) (hI : Inv G kd ad H0 M H locs) (hk : kd k = (7, 0)) (hlink : Cond.fieldLink own index "SheetFolderModel" "y" "I" ∈ WA) {v : Int32} (hdg : decode cc pc = .ok (.putfield index, 3)) {M' : Mem} (hM : M' = wr M k 22 v) (kk : ∀ (H1 : Heap) (locs1 : List Loc), Inv G kd ad H0 M' H1 locs1 → W p l e R s m args below meth c H1 locs1 cells slots Q (F0 m (pc + 3) ls rest)) : W p l e R s m args below meth c H locs cells slots Q (F0 m pc ls (.int v :: .ref (ad k) :: rest)) := by
  subst hM
  exact g_put hx hb hts inW7 tyX7 tyX7_ok nmX7 hown hK hap hI hk (by simp) rfl rfl 22 (by decide) ⟨rfl, rfl, rfl⟩ hlink rfl (ty := .int) (by decide +kernel) rfl rfl (Nat.le_of_ble_eq_true rfl) (by rw [wr_s]; rfl) wr_o hdg kk
theorem gg7_23 (hx : p.tables.exec = Jvm.exec) (hb : c.code = cc) (hts : ∀ w ∈ WA, w.before args s = true) {own : String} {index k : Nat} (hown : s.vm.findClass own = some m.cls) (hK : va_K G.1 vwCl (tyL G) s) (hI : Inv G kd ad H0 M H locs) (hk : kd k = (7, 0)) (hlink : Cond.fieldLink own index "SheetFolderModel" "can" "[Z" ∈ WA) (hdg : decode cc pc = .ok (.getfield index, 3)) (kk : W p l e R s m args below meth c H locs cells slots Q (F0 m (pc + 3) ls (.ref (ad (k + 10)) :: rest))) : W p l e R s m args below meth c H locs cells slots Q (F0 m pc ls (.ref (ad k) :: rest)) :=
  g_get hx hb hts inW7 hown hK hI hk (by simp) rfl rfl 23 (by decide) ⟨rfl, rfl, rfl⟩ hlink rfl hdg kk
theorem gg7_24 (hx : p.tables.exec = Jvm.exec) (hb : c.code = cc) (hts : ∀ w ∈ WA, w.before args s = true) {own : String} {index k : Nat} (hown : s.vm.findClass own = some m.cls) (hK : va_K G.1 vwCl (tyL G) s) (hI : Inv G kd ad H0 M H locs) (hk : kd k = (7, 0)) (hlink : Cond.fieldLink own index "SheetFolderModel" "gauges" "[I" ∈ WA) (hdg : decode cc pc = .ok (.getfield index, 3)) (kk : W p l e R s m args below meth c H locs cells slots Q (F0 m (pc + 3) ls (.ref (ad (k + 11)) :: rest))) : W p l e R s m args below meth c H locs cells slots Q (F0 m pc ls (.ref (ad k) :: rest)) :=
  g_get hx hb hts inW7 hown hK hI hk (by simp) rfl rfl 24 (by decide) ⟨rfl, rfl, rfl⟩ hlink rfl hdg kk
theorem gg7_25 (hx : p.tables.exec = Jvm.exec) (hb : c.code = cc) (hts : ∀ w ∈ WA, w.before args s = true) {own : String} {index k : Nat} (hown : s.vm.findClass own = some m.cls) (hK : va_K G.1 vwCl (tyL G) s) (hI : Inv G kd ad H0 M H locs) (hk : kd k = (7, 0)) (hlink : Cond.fieldLink own index "SheetFolderModel" "many" "[J" ∈ WA) (hdg : decode cc pc = .ok (.getfield index, 3)) (kk : W p l e R s m args below meth c H locs cells slots Q (F0 m (pc + 3) ls (.ref (ad (k + 12)) :: rest))) : W p l e R s m args below meth c H locs cells slots Q (F0 m pc ls (.ref (ad k) :: rest)) :=
  g_get hx hb hts inW7 hown hK hI hk (by simp) rfl rfl 25 (by decide) ⟨rfl, rfl, rfl⟩ hlink rfl hdg kk
theorem gg7_26 (hx : p.tables.exec = Jvm.exec) (hb : c.code = cc) (hts : ∀ w ∈ WA, w.before args s = true) {own : String} {index k : Nat} (hown : s.vm.findClass own = some m.cls) (hK : va_K G.1 vwCl (tyL G) s) (hI : Inv G kd ad H0 M H locs) (hk : kd k = (7, 0)) (hlink : Cond.fieldLink own index "SheetFolderModel" "least" "[I" ∈ WA) (hdg : decode cc pc = .ok (.getfield index, 3)) (kk : W p l e R s m args below meth c H locs cells slots Q (F0 m (pc + 3) ls (.ref (ad (k + 13)) :: rest))) : W p l e R s m args below meth c H locs cells slots Q (F0 m pc ls (.ref (ad k) :: rest)) :=
  g_get hx hb hts inW7 hown hK hI hk (by simp) rfl rfl 26 (by decide) ⟨rfl, rfl, rfl⟩ hlink rfl hdg kk
theorem gg7_27 (hx : p.tables.exec = Jvm.exec) (hb : c.code = cc) (hts : ∀ w ∈ WA, w.before args s = true) {own : String} {index k : Nat} (hown : s.vm.findClass own = some m.cls) (hK : va_K G.1 vwCl (tyL G) s) (hI : Inv G kd ad H0 M H locs) (hk : kd k = (7, 0)) (hlink : Cond.fieldLink own index "SheetFolderModel" "most" "[I" ∈ WA) (hdg : decode cc pc = .ok (.getfield index, 3)) (kk : W p l e R s m args below meth c H locs cells slots Q (F0 m (pc + 3) ls (.ref (ad (k + 14)) :: rest))) : W p l e R s m args below meth c H locs cells slots Q (F0 m pc ls (.ref (ad k) :: rest)) :=
  g_get hx hb hts inW7 hown hK hI hk (by simp) rfl rfl 27 (by decide) ⟨rfl, rfl, rfl⟩ hlink rfl hdg kk
theorem gg7_28 (hx : p.tables.exec = Jvm.exec) (hb : c.code = cc) (hts : ∀ w ∈ WA, w.before args s = true) {own : String} {index k : Nat} (hown : s.vm.findClass own = some m.cls) (hK : va_K G.1 vwCl (tyL G) s) (hI : Inv G kd ad H0 M H locs) (hk : kd k = (7, 0)) (hlink : Cond.fieldLink own index "SheetFolderModel" "isReached" "[Z" ∈ WA) (hdg : decode cc pc = .ok (.getfield index, 3)) (kk : W p l e R s m args below meth c H locs cells slots Q (F0 m (pc + 3) ls (.ref (ad (k + 15)) :: rest))) : W p l e R s m args below meth c H locs cells slots Q (F0 m pc ls (.ref (ad k) :: rest)) :=
  g_get hx hb hts inW7 hown hK hI hk (by simp) rfl rfl 28 (by decide) ⟨rfl, rfl, rfl⟩ hlink rfl hdg kk
theorem gg7_29 (hx : p.tables.exec = Jvm.exec) (hb : c.code = cc) (hts : ∀ w ∈ WA, w.before args s = true) {own : String} {index k : Nat} (hown : s.vm.findClass own = some m.cls) (hK : va_K G.1 vwCl (tyL G) s) (hI : Inv G kd ad H0 M H locs) (hk : kd k = (7, 0)) (hlink : Cond.fieldLink own index "SheetFolderModel" "output" "[I" ∈ WA) (hdg : decode cc pc = .ok (.getfield index, 3)) (kk : W p l e R s m args below meth c H locs cells slots Q (F0 m (pc + 3) ls (.ref (ad (k + 16)) :: rest))) : W p l e R s m args below meth c H locs cells slots Q (F0 m pc ls (.ref (ad k) :: rest)) :=
  g_get hx hb hts inW7 hown hK hI hk (by simp) rfl rfl 29 (by decide) ⟨rfl, rfl, rfl⟩ hlink rfl hdg kk
theorem gg7_30 (hx : p.tables.exec = Jvm.exec) (hb : c.code = cc) (hts : ∀ w ∈ WA, w.before args s = true) {own : String} {index k : Nat} (hown : s.vm.findClass own = some m.cls) (hK : va_K G.1 vwCl (tyL G) s) (hI : Inv G kd ad H0 M H locs) (hk : kd k = (7, 0)) (hlink : Cond.fieldLink own index "SheetFolderModel" "outputLength" "I" ∈ WA) (hdg : decode cc pc = .ok (.getfield index, 3)) (kk : W p l e R s m args below meth c H locs cells slots Q (F0 m (pc + 3) ls (.int (rd M k 30) :: rest))) : W p l e R s m args below meth c H locs cells slots Q (F0 m pc ls (.ref (ad k) :: rest)) :=
  g_get hx hb hts inW7 hown hK hI hk (by simp) rfl rfl 30 (by decide) ⟨rfl, rfl, rfl⟩ hlink rfl hdg kk
theorem gp7_30 (hx : p.tables.exec = Jvm.exec) (hb : c.code = cc) (hts : ∀ w ∈ WA, w.before args s = true) {own : String} {index k : Nat} (hown : s.vm.findClass own = some m.cls) (hK : va_K G.1 vwCl (tyL G) s) (hap : Apt kd ad) (hI : Inv G kd ad H0 M H locs) (hk : kd k = (7, 0)) (hlink : Cond.fieldLink own index "SheetFolderModel" "outputLength" "I" ∈ WA) {v : Int32} (hdg : decode cc pc = .ok (.putfield index, 3)) {M' : Mem} (hM : M' = wr M k 30 v) (kk : ∀ (H1 : Heap) (locs1 : List Loc), Inv G kd ad H0 M' H1 locs1 → W p l e R s m args below meth c H1 locs1 cells slots Q (F0 m (pc + 3) ls rest)) : W p l e R s m args below meth c H locs cells slots Q (F0 m pc ls (.int v :: .ref (ad k) :: rest)) := by
  subst hM
  exact g_put hx hb hts inW7 tyX7 tyX7_ok nmX7 hown hK hap hI hk (by simp) rfl rfl 30 (by decide) ⟨rfl, rfl, rfl⟩ hlink rfl (ty := .int) (by decide +kernel) rfl rfl (Nat.le_of_ble_eq_true rfl) (by rw [wr_s]; rfl) wr_o hdg kk
theorem gp4_2 (hx : p.tables.exec = Jvm.exec) (hb : c.code = cc) (hts : ∀ w ∈ WA, w.before args s = true) {own : String} {index k : Nat} (hown : s.vm.findClass own = some m.cls) (hK : va_K G.1 vwCl (tyL G) s) (hap : Apt kd ad) (hI : Inv G kd ad H0 M H locs) (hk : kd k = (5, 0)) (hlink : Cond.fieldLink own index "SheetFolder$TextReader" "bytes" "[B" ∈ WA) {b : Nat} (hdg : decode cc pc = .ok (.putfield index, 3)) (hb1 : b = 1) {M' : Mem} (hM : M' = wr M k 2 1) (kk : ∀ (H1 : Heap) (locs1 : List Loc), Inv G kd ad H0 M' H1 locs1 → W p l e R s m args below meth c H1 locs1 cells slots Q (F0 m (pc + 3) ls rest)) : W p l e R s m args below meth c H locs cells slots Q (F0 m pc ls (.ref (ad b) :: .ref (ad k) :: rest)) := by
  subst hM; subst hb1
  exact g_put hx hb hts inW4 tyX4 tyX4_ok nmX4 hown hK hap hI hk (by simp) rfl rfl 2 (by decide) ⟨rfl, rfl, rfl⟩ hlink rfl (ty := .array .byte) (by decide +kernel) rfl rfl (Nat.le_of_ble_eq_true rfl) (by rw [wr_s]; rfl) wr_o hdg kk
theorem g_callVi {b : Nat} {C : String} {y : MethodName} {bytes : ByteArray} {maxL nL mc ms n index : Nat} {ret : Option FieldType} {rm : Room} {own : String} {As : List Value} {M' : Mem} {r : Int32} (hx : p.tables.exec = Jvm.exec) (hb : c.code = cc) (hml : c.maxLocals = nL) (hown : s.vm.findClass own = some m.cls) (hts : ∀ w ∈ WA, w.before args s = true) (hK : va_K G.1 vwCl (tyL G) s) (hap : Apt kd ad) (hsx : Sx G (AS kd ad s.heap.size) s s.heap) (hI : Inv G kd ad s.heap M H locs)
    (hM : Met l y (Cond.code y bytes maxL ret :: WA) rm (Pg G kd ad H.size (.ref (ad b) :: As) M) (Qg G kd ad H.size M' (some (.int r))) mc ms (AS kd ad H.size)) (hcv : cvF C y bytes maxL ret n) (hl : Cond.methodLink own index y ∈ WA) (hrc : rm.cells = mc) (hrs : rm.slots = ms) (hR : rm.frames + 1 ≤ R.frames ∧ 8 + (maxL + 11) + rm.locals ≤ R.locals)
    {ci : Nat} {q : Nat × Nat} {fs : List Value} {T : u_T} {N : Nat} (hk : kd b = q) (hq : q.1 ≠ 0) (he : ent ad G.2.1 q b (M.1 b) (M.2.1 b) (M.2.2 b) = .inr (ci, fs)) (hc : vwCl[ci]? = some (C, T, N)) (hn : As.length = n) (hsize : ls.size = nL) {st : List Value} (hst : st = As.reverse ++ .ref (ad b) :: rest) (hW : (rest.map fun v => v.category).sum ≤ 8) (hdg : decode cc pc = .ok (.invokevirtual index, 3)) (hf : cells + mc ≤ R.cells ∧ slots + ms ≤ R.slots)
    (kk : ∀ (H1 : Heap) (locs1 : List Loc), Inv G kd ad s.heap M' H1 locs1 → W p l e R s m args below meth c H1 locs1 (cells + mc) (slots + ms) Q (F0 m (pc + 3) ls (.int r :: rest))) : W p l e R s m args below meth c H locs cells slots Q (F0 m pc ls st) :=
  g_callV hx hb hml hown hts hK hap hsx hI hM hcv hl hrc hrs hR hk hq he hc hn hsize hst hW hdg hf kk
theorem g_callVl {b : Nat} {C : String} {y : MethodName} {bytes : ByteArray} {maxL nL mc ms n index : Nat} {ret : Option FieldType} {rm : Room} {own : String} {As : List Value} {M' : Mem} {r : Int64} (hx : p.tables.exec = Jvm.exec) (hb : c.code = cc) (hml : c.maxLocals = nL) (hown : s.vm.findClass own = some m.cls) (hts : ∀ w ∈ WA, w.before args s = true) (hK : va_K G.1 vwCl (tyL G) s) (hap : Apt kd ad) (hsx : Sx G (AS kd ad s.heap.size) s s.heap) (hI : Inv G kd ad s.heap M H locs)
    (hM : Met l y (Cond.code y bytes maxL ret :: WA) rm (Pg G kd ad H.size (.ref (ad b) :: As) M) (Qg G kd ad H.size M' (some (.long r))) mc ms (AS kd ad H.size)) (hcv : cvF C y bytes maxL ret n) (hl : Cond.methodLink own index y ∈ WA) (hrc : rm.cells = mc) (hrs : rm.slots = ms) (hR : rm.frames + 1 ≤ R.frames ∧ 8 + (maxL + 11) + rm.locals ≤ R.locals)
    {ci : Nat} {q : Nat × Nat} {fs : List Value} {T : u_T} {N : Nat} (hk : kd b = q) (hq : q.1 ≠ 0) (he : ent ad G.2.1 q b (M.1 b) (M.2.1 b) (M.2.2 b) = .inr (ci, fs)) (hc : vwCl[ci]? = some (C, T, N)) (hn : As.length = n) (hsize : ls.size = nL) {st : List Value} (hst : st = As.reverse ++ .ref (ad b) :: rest) (hW : (rest.map fun v => v.category).sum ≤ 8) (hdg : decode cc pc = .ok (.invokevirtual index, 3)) (hf : cells + mc ≤ R.cells ∧ slots + ms ≤ R.slots)
    (kk : ∀ (H1 : Heap) (locs1 : List Loc), Inv G kd ad s.heap M' H1 locs1 → W p l e R s m args below meth c H1 locs1 (cells + mc) (slots + ms) Q (F0 m (pc + 3) ls (.long r :: rest))) : W p l e R s m args below meth c H locs cells slots Q (F0 m pc ls st) :=
  g_callV hx hb hml hown hts hK hap hsx hI hM hcv hl hrc hrs hR hk hq he hc hn hsize hst hW hdg hf kk
theorem g_callVd {b : Nat} {C : String} {y : MethodName} {bytes : ByteArray} {maxL nL mc ms n index : Nat} {ret : Option FieldType} {rm : Room} {own : String} {As : List Value} {M' : Mem} {r : UInt64} (hx : p.tables.exec = Jvm.exec) (hb : c.code = cc) (hml : c.maxLocals = nL) (hown : s.vm.findClass own = some m.cls) (hts : ∀ w ∈ WA, w.before args s = true) (hK : va_K G.1 vwCl (tyL G) s) (hap : Apt kd ad) (hsx : Sx G (AS kd ad s.heap.size) s s.heap) (hI : Inv G kd ad s.heap M H locs)
    (hM : Met l y (Cond.code y bytes maxL ret :: WA) rm (Pg G kd ad H.size (.ref (ad b) :: As) M) (Qg G kd ad H.size M' (some (.double r))) mc ms (AS kd ad H.size)) (hcv : cvF C y bytes maxL ret n) (hl : Cond.methodLink own index y ∈ WA) (hrc : rm.cells = mc) (hrs : rm.slots = ms) (hR : rm.frames + 1 ≤ R.frames ∧ 8 + (maxL + 11) + rm.locals ≤ R.locals)
    {ci : Nat} {q : Nat × Nat} {fs : List Value} {T : u_T} {N : Nat} (hk : kd b = q) (hq : q.1 ≠ 0) (he : ent ad G.2.1 q b (M.1 b) (M.2.1 b) (M.2.2 b) = .inr (ci, fs)) (hc : vwCl[ci]? = some (C, T, N)) (hn : As.length = n) (hsize : ls.size = nL) {st : List Value} (hst : st = As.reverse ++ .ref (ad b) :: rest) (hW : (rest.map fun v => v.category).sum ≤ 8) (hdg : decode cc pc = .ok (.invokevirtual index, 3)) (hf : cells + mc ≤ R.cells ∧ slots + ms ≤ R.slots)
    (kk : ∀ (H1 : Heap) (locs1 : List Loc), Inv G kd ad s.heap M' H1 locs1 → W p l e R s m args below meth c H1 locs1 (cells + mc) (slots + ms) Q (F0 m (pc + 3) ls (.double r :: rest))) : W p l e R s m args below meth c H locs cells slots Q (F0 m pc ls st) :=
  g_callV hx hb hml hown hts hK hap hsx hI hM hcv hl hrc hrs hR hk hq he hc hn hsize hst hW hdg hf kk
theorem g_callVv {b : Nat} {C : String} {y : MethodName} {bytes : ByteArray} {maxL nL mc ms n index : Nat} {ret : Option FieldType} {rm : Room} {own : String} {As : List Value} {M' : Mem}  (hx : p.tables.exec = Jvm.exec) (hb : c.code = cc) (hml : c.maxLocals = nL) (hown : s.vm.findClass own = some m.cls) (hts : ∀ w ∈ WA, w.before args s = true) (hK : va_K G.1 vwCl (tyL G) s) (hap : Apt kd ad) (hsx : Sx G (AS kd ad s.heap.size) s s.heap) (hI : Inv G kd ad s.heap M H locs)
    (hM : Met l y (Cond.code y bytes maxL ret :: WA) rm (Pg G kd ad H.size (.ref (ad b) :: As) M) (Qg G kd ad H.size M' none) mc ms (AS kd ad H.size)) (hcv : cvF C y bytes maxL ret n) (hl : Cond.methodLink own index y ∈ WA) (hrc : rm.cells = mc) (hrs : rm.slots = ms) (hR : rm.frames + 1 ≤ R.frames ∧ 8 + (maxL + 11) + rm.locals ≤ R.locals)
    {ci : Nat} {q : Nat × Nat} {fs : List Value} {T : u_T} {N : Nat} (hk : kd b = q) (hq : q.1 ≠ 0) (he : ent ad G.2.1 q b (M.1 b) (M.2.1 b) (M.2.2 b) = .inr (ci, fs)) (hc : vwCl[ci]? = some (C, T, N)) (hn : As.length = n) (hsize : ls.size = nL) {st : List Value} (hst : st = As.reverse ++ .ref (ad b) :: rest) (hW : (rest.map fun v => v.category).sum ≤ 8) (hdg : decode cc pc = .ok (.invokevirtual index, 3)) (hf : cells + mc ≤ R.cells ∧ slots + ms ≤ R.slots)
    (kk : ∀ (H1 : Heap) (locs1 : List Loc), Inv G kd ad s.heap M' H1 locs1 → W p l e R s m args below meth c H1 locs1 (cells + mc) (slots + ms) Q (F0 m (pc + 3) ls rest)) : W p l e R s m args below meth c H locs cells slots Q (F0 m pc ls st) :=
  g_callV hx hb hml hown hts hK hap hsx hI hM hcv hl hrc hrs hR hk hq he hc hn hsize hst hW hdg hf kk
theorem g_callSi  {y : MethodName} {bytes : ByteArray} {maxL nL mc ms n index : Nat} {ret : Option FieldType} {rm : Room} {own : String} {As : List Value} {M' : Mem} {r : Int32} (hx : p.tables.exec = Jvm.exec) (hb : c.code = cc) (hml : c.maxLocals = nL) (hown : s.vm.findClass own = some m.cls) (hts : ∀ w ∈ WA, w.before args s = true) (hK : va_K G.1 vwCl (tyL G) s) (hap : Apt kd ad) (hsx : Sx G (AS kd ad s.heap.size) s s.heap) (hI : Inv G kd ad s.heap M H locs)
    (hM : Met l y (Cond.code y bytes maxL ret :: WA) rm (Pg G kd ad H.size As M) (Qg G kd ad H.size M' (some (.int r))) mc ms (AS kd ad H.size)) (hcv : csF y bytes maxL ret n) (hl : Cond.methodLink own index y ∈ WA) (hrc : rm.cells = mc) (hrs : rm.slots = ms) (hR : rm.frames + 1 ≤ R.frames ∧ 8 + (maxL + 11) + rm.locals ≤ R.locals)
     (hn : As.length = n) (hsize : ls.size = nL) {st : List Value} (hst : st = As.reverse ++ rest) (hW : (rest.map fun v => v.category).sum ≤ 8) (hdg : decode cc pc = .ok (.invokestatic index, 3)) (hf : cells + mc ≤ R.cells ∧ slots + ms ≤ R.slots)
    (kk : ∀ (H1 : Heap) (locs1 : List Loc), Inv G kd ad s.heap M' H1 locs1 → W p l e R s m args below meth c H1 locs1 (cells + mc) (slots + ms) Q (F0 m (pc + 3) ls (.int r :: rest))) : W p l e R s m args below meth c H locs cells slots Q (F0 m pc ls st) :=
  g_callS hx hb hml hown hts hK hap hsx hI hM hcv hl hrc hrs hR hn hsize hst hW hdg hf kk
theorem g_callSv  {y : MethodName} {bytes : ByteArray} {maxL nL mc ms n index : Nat} {ret : Option FieldType} {rm : Room} {own : String} {As : List Value} {M' : Mem}  (hx : p.tables.exec = Jvm.exec) (hb : c.code = cc) (hml : c.maxLocals = nL) (hown : s.vm.findClass own = some m.cls) (hts : ∀ w ∈ WA, w.before args s = true) (hK : va_K G.1 vwCl (tyL G) s) (hap : Apt kd ad) (hsx : Sx G (AS kd ad s.heap.size) s s.heap) (hI : Inv G kd ad s.heap M H locs)
    (hM : Met l y (Cond.code y bytes maxL ret :: WA) rm (Pg G kd ad H.size As M) (Qg G kd ad H.size M' none) mc ms (AS kd ad H.size)) (hcv : csF y bytes maxL ret n) (hl : Cond.methodLink own index y ∈ WA) (hrc : rm.cells = mc) (hrs : rm.slots = ms) (hR : rm.frames + 1 ≤ R.frames ∧ 8 + (maxL + 11) + rm.locals ≤ R.locals)
     (hn : As.length = n) (hsize : ls.size = nL) {st : List Value} (hst : st = As.reverse ++ rest) (hW : (rest.map fun v => v.category).sum ≤ 8) (hdg : decode cc pc = .ok (.invokestatic index, 3)) (hf : cells + mc ≤ R.cells ∧ slots + ms ≤ R.slots)
    (kk : ∀ (H1 : Heap) (locs1 : List Loc), Inv G kd ad s.heap M' H1 locs1 → W p l e R s m args below meth c H1 locs1 (cells + mc) (slots + ms) Q (F0 m (pc + 3) ls rest)) : W p l e R s m args below meth c H locs cells slots Q (F0 m pc ls st) :=
  g_callS hx hb hml hown hts hK hap hsx hI hM hcv hl hrc hrs hR hn hsize hst hW hdg hf kk
theorem g_callSr  {y : MethodName} {bytes : ByteArray} {maxL nL mc ms n index : Nat} {ret : Option FieldType} {rm : Room} {own : String} {As : List Value} {M' : Mem} {r : Option Nat} (hx : p.tables.exec = Jvm.exec) (hb : c.code = cc) (hml : c.maxLocals = nL) (hown : s.vm.findClass own = some m.cls) (hts : ∀ w ∈ WA, w.before args s = true) (hK : va_K G.1 vwCl (tyL G) s) (hap : Apt kd ad) (hsx : Sx G (AS kd ad s.heap.size) s s.heap) (hI : Inv G kd ad s.heap M H locs)
    (hM : Met l y (Cond.code y bytes maxL ret :: WA) rm (Pg G kd ad H.size As M) (Qg G kd ad H.size M' (some (va_re G.2.2 r))) mc ms (AS kd ad H.size)) (hcv : csF y bytes maxL ret n) (hl : Cond.methodLink own index y ∈ WA) (hrc : rm.cells = mc) (hrs : rm.slots = ms) (hR : rm.frames + 1 ≤ R.frames ∧ 8 + (maxL + 11) + rm.locals ≤ R.locals)
     (hn : As.length = n) (hsize : ls.size = nL) {st : List Value} (hst : st = As.reverse ++ rest) (hW : (rest.map fun v => v.category).sum ≤ 8) (hdg : decode cc pc = .ok (.invokestatic index, 3)) (hf : cells + mc ≤ R.cells ∧ slots + ms ≤ R.slots)
    (kk : ∀ (H1 : Heap) (locs1 : List Loc), Inv G kd ad s.heap M' H1 locs1 → W p l e R s m args below meth c H1 locs1 (cells + mc) (slots + ms) Q (F0 m (pc + 3) ls (va_re G.2.2 r :: rest))) : W p l e R s m args below meth c H locs cells slots Q (F0 m pc ls st) :=
  g_callS hx hb hml hown hts hK hap hsx hI hM hcv hl hrc hrs hR hn hsize hst hW hdg hf kk
theorem g_callWi {b : Nat} {y : MethodName} {bytes : ByteArray} {maxL nL mc ms n index : Nat} {ret : Option FieldType} {rm : Room} {own : String} {As : List Value} {M' : Mem} {r : Int32} (hx : p.tables.exec = Jvm.exec) (hb : c.code = cc) (hml : c.maxLocals = nL) (hown : s.vm.findClass own = some m.cls) (hts : ∀ w ∈ WA, w.before args s = true) (hK : va_K G.1 vwCl (tyL G) s) (hap : Apt kd ad) (hsx : Sx G (AS kd ad s.heap.size) s s.heap) (hI : Inv G kd ad s.heap M H locs)
    (hM : Met l y (Cond.code y bytes maxL ret :: WA) rm (Pg G kd ad H.size (.ref (G.2.2 b) :: As) M) (Qg G kd ad H.size M' (some (.int r))) mc ms (AS kd ad H.size)) (hcv : cvF "SheetFolder$Word" y bytes maxL ret n) (hl : Cond.methodLink own index y ∈ WA) (hrc : rm.cells = mc) (hrs : rm.slots = ms) (hR : rm.frames + 1 ≤ R.frames ∧ 8 + (maxL + 11) + rm.locals ≤ R.locals)
    (hbw : b < 11) (hn : As.length = n) (hsize : ls.size = nL) {st : List Value} (hst : st = As.reverse ++ .ref (G.2.2 b) :: rest) (hW : (rest.map fun v => v.category).sum ≤ 8) (hdg : decode cc pc = .ok (.invokevirtual index, 3)) (hf : cells + mc ≤ R.cells ∧ slots + ms ≤ R.slots)
    (kk : ∀ (H1 : Heap) (locs1 : List Loc), Inv G kd ad s.heap M' H1 locs1 → W p l e R s m args below meth c H1 locs1 (cells + mc) (slots + ms) Q (F0 m (pc + 3) ls (.int r :: rest))) : W p l e R s m args below meth c H locs cells slots Q (F0 m pc ls st) := by
  subst hst
  obtain ⟨c1, c2, c3, c4, c5⟩ := hcv
  have hG : GoodIn WA (wsV own index "SheetFolder$Word" y (Cond.code y bytes maxL ret :: WA)) := fun w h => by
    have : w ∈ WA := by
      rcases List.mem_append.mp h with h | h
      · simp only [List.mem_cons, List.not_mem_nil, or_false] at h
        rcases h with rfl | rfl | rfl | rfl
        · exact hl
        · exact c1
        · exact c2
        · exact c3
      · exact ws_good c4 w h
    exact ⟨this, wa_good w this⟩
  exact g_call (va_runV (C := "SheetFolder$Word") (b := G.2.2 b) (As := As) (rest := rest) ⟨hx, hb, hml, hown, hts⟩ hM (cwV n hts hG rfl hrc hrs c5 hR) ⟨pg_blind, va_recvE hsx.2.2.2.2 hbw hI.2, fun U hU hW => pg_of hap hK hsx hI hU hW⟩ rfl hn hsize rfl (lv_room hW) hdg hf) hI kk
theorem g_wf0 (hx : p.tables.exec = Jvm.exec) (hb : c.code = cc) {own : String} {index b : Nat} (hown : s.vm.findClass own = some m.cls) (hts : ∀ w ∈ WA, w.before args s = true) (hsx : Sx G (AS kd ad s.heap.size) s s.heap) (hI : Inv G kd ad s.heap M H locs) (hbw : b < 11) (hlink : Cond.fieldLink own index "SheetFolder$Word" "leastOfFirst" "I" ∈ WA) (hdg : decode cc pc = .ok (.getfield index, 3)) (kk : W p l e R s m args below meth c H locs cells slots Q (F0 m (pc + 3) ls (.int (wF0.getD b 0) :: rest))) : W p l e R s m args below meth c H locs cells slots Q (F0 m pc ls (.ref (G.2.2 b) :: rest)) :=
  va_getE (F := wFs) (q := ("SheetFolder$Word", "leastOfFirst", "I", wF0)) hx hb hsx.2.2.2.2 hbw hI.2 hown (by simp) (hts _ hlink) (fun _ h => h) hdg kk
theorem g_wf1 (hx : p.tables.exec = Jvm.exec) (hb : c.code = cc) {own : String} {index b : Nat} (hown : s.vm.findClass own = some m.cls) (hts : ∀ w ∈ WA, w.before args s = true) (hsx : Sx G (AS kd ad s.heap.size) s s.heap) (hI : Inv G kd ad s.heap M H locs) (hbw : b < 11) (hlink : Cond.fieldLink own index "SheetFolder$Word" "mostOfFirst" "I" ∈ WA) (hdg : decode cc pc = .ok (.getfield index, 3)) (kk : W p l e R s m args below meth c H locs cells slots Q (F0 m (pc + 3) ls (.int (wF1.getD b 0) :: rest))) : W p l e R s m args below meth c H locs cells slots Q (F0 m pc ls (.ref (G.2.2 b) :: rest)) :=
  va_getE (F := wFs) (q := ("SheetFolder$Word", "mostOfFirst", "I", wF1)) hx hb hsx.2.2.2.2 hbw hI.2 hown (by simp) (hts _ hlink) (fun _ h => h) hdg kk
theorem g_wf2 (hx : p.tables.exec = Jvm.exec) (hb : c.code = cc) {own : String} {index b : Nat} (hown : s.vm.findClass own = some m.cls) (hts : ∀ w ∈ WA, w.before args s = true) (hsx : Sx G (AS kd ad s.heap.size) s s.heap) (hI : Inv G kd ad s.heap M H locs) (hbw : b < 11) (hlink : Cond.fieldLink own index "SheetFolder$Word" "mostOfSecond" "I" ∈ WA) (hdg : decode cc pc = .ok (.getfield index, 3)) (kk : W p l e R s m args below meth c H locs cells slots Q (F0 m (pc + 3) ls (.int (wF2.getD b 0) :: rest))) : W p l e R s m args below meth c H locs cells slots Q (F0 m pc ls (.ref (G.2.2 b) :: rest)) :=
  va_getE (F := wFs) (q := ("SheetFolder$Word", "mostOfSecond", "I", wF2)) hx hb hsx.2.2.2.2 hbw hI.2 hown (by simp) (hts _ hlink) (fun _ h => h) hdg kk
theorem g_wf3 (hx : p.tables.exec = Jvm.exec) (hb : c.code = cc) {own : String} {index b : Nat} (hown : s.vm.findClass own = some m.cls) (hts : ∀ w ∈ WA, w.before args s = true) (hsx : Sx G (AS kd ad s.heap.size) s s.heap) (hI : Inv G kd ad s.heap M H locs) (hbw : b < 11) (hlink : Cond.fieldLink own index "SheetFolder$Word" "mostOfThird" "I" ∈ WA) (hdg : decode cc pc = .ok (.getfield index, 3)) (kk : W p l e R s m args below meth c H locs cells slots Q (F0 m (pc + 3) ls (.int (wF3.getD b 0) :: rest))) : W p l e R s m args below meth c H locs cells slots Q (F0 m pc ls (.ref (G.2.2 b) :: rest)) :=
  va_getE (F := wFs) (q := ("SheetFolder$Word", "mostOfThird", "I", wF3)) hx hb hsx.2.2.2.2 hbw hI.2 hown (by simp) (hts _ hlink) (fun _ h => h) hdg kk
theorem g_gsW (i : Nat) (hi : i < 11) (hx : p.tables.exec = Jvm.exec) (hb : c.code = cc) {own : String} {index : Nat} (hown : s.vm.findClass own = some m.cls) (hts : ∀ w ∈ WA, w.before args s = true) (hsx : Sx G (AS kd ad s.heap.size) s s.heap) (hI : Inv G kd ad s.heap M H locs) (hlink : Cond.fieldLink own index "SheetFolder$Word" (wNm.getD i "") "LSheetFolder$Word;" ∈ WA) (hdg : decode cc pc = .ok (.getstatic index, 3)) (kk : W p l e R s m args below meth c H locs cells slots Q (F0 m (pc + 3) ls (.ref (G.2.2 i) :: rest))) : W p l e R s m args below meth c H locs cells slots Q (F0 m pc ls rest) :=
  va_gets hx hb (hsx.2.2.2.2.1 i hi).1 hI.2 hown (hts _ hlink) (fun _ h => h) hdg kk
theorem lv_wn (k : W p l e R s m args below meth c H locs cells slots Q (F0 m pc ls (.null :: rest))) : W p l e R s m args below meth c H locs cells slots Q (F0 m pc ls (va_re G.2.2 none :: rest)) := k
theorem lv_ws {b : Nat} (k : W p l e R s m args below meth c H locs cells slots Q (F0 m pc ls (.ref (G.2.2 b) :: rest))) : W p l e R s m args below meth c H locs cells slots Q (F0 m pc ls (va_re G.2.2 (some b) :: rest)) := k
theorem g_wne {a b : Nat} {off : Int} {tgt : Nat} (hx : p.tables.exec = Jvm.exec) (hb : c.code = cc) (hsx : Sx G (AS kd ad s.heap.size) s s.heap) (ha : a < 11) (hbw : b < 11) (hdg : decode cc pc = .ok (.if_acmp .ne off, 3)) (ht : (pc : Int) + off = (tgt : Int))
    (kt : ¬ a = b → W p l e R s m args below meth c H locs cells slots Q (F0 m tgt ls rest)) (kf : a = b → W p l e R s m args below meth c H locs cells slots Q (F0 m (pc + 3) ls rest)) : W p l e R s m args below meth c H locs cells slots Q (F0 m pc ls (.ref (G.2.2 b) :: .ref (G.2.2 a) :: rest)) :=
  lv_acmp_ne (rx := some (G.2.2 a)) (ry := some (G.2.2 b)) hx hb hdg ht (fun h => kt (fun q => h (by rw [q]))) (fun h => kf (hsx.2.2.2.2.2 a b ha hbw (Option.some.inj h)))
theorem g_weq {a b : Nat} {off : Int} {tgt : Nat} (hx : p.tables.exec = Jvm.exec) (hb : c.code = cc) (hsx : Sx G (AS kd ad s.heap.size) s s.heap) (ha : a < 11) (hbw : b < 11) (hdg : decode cc pc = .ok (.if_acmp .eq off, 3)) (ht : (pc : Int) + off = (tgt : Int))
    (kt : a = b → W p l e R s m args below meth c H locs cells slots Q (F0 m tgt ls rest)) (kf : ¬ a = b → W p l e R s m args below meth c H locs cells slots Q (F0 m (pc + 3) ls rest)) : W p l e R s m args below meth c H locs cells slots Q (F0 m pc ls (.ref (G.2.2 b) :: .ref (G.2.2 a) :: rest)) :=
  lv_acmp_eq (rx := some (G.2.2 a)) (ry := some (G.2.2 b)) hx hb hdg ht (fun h => kt (hsx.2.2.2.2.2 a b ha hbw (Option.some.inj h))) (fun h => kf (fun q => h (by rw [q])))
theorem g_wneN {b : Nat} {off : Int} {tgt : Nat} (hx : p.tables.exec = Jvm.exec) (hb : c.code = cc) (hdg : decode cc pc = .ok (.if_acmp .ne off, 3)) (ht : (pc : Int) + off = (tgt : Int))
    (kt : W p l e R s m args below meth c H locs cells slots Q (F0 m tgt ls rest)) : W p l e R s m args below meth c H locs cells slots Q (F0 m pc ls (.ref b :: .null :: rest)) :=
  lv_acmp_ne (rx := none) (ry := some b) hx hb hdg ht (fun _ => kt) (fun h => by cases h)
theorem g_aret (hx : p.tables.exec = Jvm.exec) (hb : c.code = cc) {cn : String} (hr : meth.sig.returnType = some (.object cn)) (hlk : meth.locks = false) (hI : Inv G kd ad s.heap M H locs) {w : Option Nat} (hdg : decode cc pc = .ok (.areturn, 1)) : W p l e R s m args below meth c H locs cells slots (MQ below (Qg G kd ad s.heap.size M (some (va_re G.2.2 w))) args s cells slots (AS kd ad s.heap.size)) (F0 m pc ls [va_re G.2.2 w]) :=
  W.aret hx hb hr (Or.inl ⟨cn, rfl⟩) (by cases w <;> first | exact Or.inl rfl | exact Or.inr ⟨_, rfl⟩) (fun t ht _ => ⟨rfl, by rw [ht]; exact hI.1, hI.2.F ht⟩) hI.2.2.2 hdg hlk
def opt {β : Type} (r : Option Nat) (a : Option β) (b : Nat → Option β) : Option β := match r with
  | none => a
  | some w => b w
theorem opt_s {β : Type} {r : Option Nat} {a : Option β} {b : Nat → Option β} {y : β} (h : opt r a b = some y) : (r = none ∧ a = some y) ∨ ∃ w, r = some w ∧ b w = some y := by
  cases r with
  | none => exact Or.inl ⟨rfl, h⟩
  | some w => exact Or.inr ⟨w, rfl, h⟩
def isC (r : Int32) : Bool := decide (narrow .char (.int r) = .int r)
theorem isC_n {r : Int32} (h : isC r = true) : narrow .char (.int r) = .int r := of_decide_eq_true h
theorem g_body {y : MethodName} {bytes : ByteArray} {maxL mc ms n : Nat} {ret : Option FieldType} {own : String} {As : List Value} {M' : Mem} {v : Option Value} {d : Nat} (hy : plainName y.cls = true) (hyo : y.cls = own)
    (body : ∀ p e s m args below meth c, Cx p s m args meth c bytes maxL ret own G kd ad → s.heap.size = n → At p l e (rmO d mc ms) s m args below meth c 0 0 (MQ below (Qg G kd ad s.heap.size M' v) args s mc ms (AS kd ad s.heap.size)) G kd ad maxL 0 (lv_args 0 As) [] M) (hlen : (lg_sl As).length ≤ maxL) :
    Met l y (Cond.code y bytes maxL ret :: WA) (rmO d mc ms) (Pg G kd ad n As M) (Qg G kd ad n M' v) mc ms (AS kd ad n) := by
  refine Met.ofW (cc := bytes) (maxL := maxL) (ret := ret) hy rfl ?_
  intro p e s m args below meth c s₁ B hml hv
  obtain ⟨rfl, hsz, hw, hap, hK, hsx⟩ := hv
  have hts := atoms_spec (ws := Cond.code y bytes maxL ret :: WA) B.pre
  have hown : s.vm.findClass own = some m.cls := hyo ▸ findClass_of_methodNamed B.named
  subst hsz
  have hl := lv_entry As (n := maxL) hlen
  rw [lg_entry_eq]
  generalize (lg_sl As ++ List.replicate (maxL - (lg_sl As).length) Slot.unset).toArray = ls at hl ⊢
  exact body p e s m _ below meth c ⟨B.exec, B.bytes, hml, B.returns, hown, fun w h => hts w (List.mem_cons_of_mem _ h), B.notSynchronized, hK, hap, hsx⟩ rfl _ _ ls ⟨hw, va_S.rf⟩ hl
theorem g_copy (hx : p.tables.exec = Jvm.exec) (hb : c.code = cc) (hml : c.maxLocals = ls.size) {own : String} {index : Nat} (hown : s.vm.findClass own = some m.cls) (hlink : (Cond.methodLink own index arraycopyName).before args s = true) (hnat : (Cond.native arraycopyName).before args s = true) (hstat : (Cond.static arraycopyName).before args s = true) (hini : (Cond.initialized "java/lang/System").before args s = true)
    (hK : va_K G.1 vwCl (tyL G) s) (hap : Apt kd ad) (hI : Inv G kd ad H0 M H locs) {k1 k2 n0 n1 : Nat} (hk1 : kd k1 = (10, n0)) (hk2 : kd k2 = (10, n1)) {N : Nat} {sp dp n : Int32} (e1 : sp = 0) (e2 : dp = 0) (e3 : n.toNatClampNeg = N ∧ ¬ n < 0) (h4 : N ≤ n0) (h5 : N ≤ n1) (hroom : 1 ≤ R.frames ∧ (rest.map fun v => v.category).sum + (nativeFrameWords "java/lang/System" "arraycopy" 5 + 11) ≤ R.locals) (hdg : decode cc pc = .ok (.invokestatic index, 3)) {M' : Mem} (hM : M' = cpy M k1 k2 0 0 N)
    (kk : ∀ (H1 : Heap) (locs1 : List Loc), Inv G kd ad H0 M' H1 locs1 → W p l e R s m args below meth c H1 locs1 cells slots Q (F0 m (pc + 3) ls rest)) : W p l e R s m args below meth c H locs cells slots Q (F0 m pc ls (.int n :: .int dp :: .ref (ad k2) :: .int sp :: .ref (ad k1) :: rest)) := by
  subst hM; subst e1; subst e2
  obtain ⟨e3, h3⟩ := e3
  have nn : ∀ z : Int32, ¬ z < 0 → z.toInt = (z.toNatClampNeg : Int) := by
    intro z hz
    have hz0 : (0 : Int) ≤ z.toInt := by
      have := Int32.not_lt.mp hz
      simpa using Int32.le_iff_toInt_le.mp this
    show z.toInt = ((z.toInt.toNat : Nat) : Int)
    omega
  have z0 : (0 : Int32).toNatClampNeg = 0 := rfl
  intro T hT X
  have hc0 : H[ad k1]? = some (vp_cell (G.2.1 0) (n0, .inl (M.1 k1))) := hI.at hk1 (by simp) rfl
  have hc1 : H[ad k2]? = some (vp_cell (G.2.1 0) (n1, .inl (M.1 k2))) := hI.at hk2 (by simp) rfl
  obtain ⟨-, ka, hka, cm0, hkk0⟩ := (hK.2 0 _ rfl).1 n0 (fun j => .int (M.1 k1 j))
  obtain ⟨-, kb, hkb, cm1, hkk1⟩ := (hK.2 0 _ rfl).1 n1 (fun j => .int (M.1 k2 j))
  obtain ⟨vm', X', step⟩ := X.arraycopy hx hown hlink hnat hstat hini (src := ad k1) (dst := ad k2) (cs := vp_cell (G.2.1 0) (n0, .inl (M.1 k1))) (cd := vp_cell (G.2.1 0) (n1, .inl (M.1 k2))) (srcPos := 0) (destPos := 0) (n := n) (by rw [hT]; exact hc0) (by rw [hT]; exact hc1)
    (fun _ h => by cases h) (fun _ h => by cases h) (fun h => by cases h) (fun h => by cases h) hka hkb hkk0 hkk1 (by simp) (by decide) (by decide) h3
    (by rw [nn 0 (by decide), nn n h3, e3, z0]; show ¬ _ > ((arrV (G.2.1 0) n0 (fun j => .int (M.1 k1 j))).slots.size : Int); rw [arrV_size]; omega)
    (by rw [nn 0 (by decide), nn n h3, e3, z0]; show ¬ _ > ((arrV (G.2.1 0) n1 (fun j => .int (M.1 k2 j))).slots.size : Int); rw [arrV_size]; omega)
    (fun vm₁ _ i hi => by
      have e : (vp_cell (G.2.1 0) (n0, .inl (M.1 k1))).slots.getD ((0 : Int32).toNatClampNeg + i) .null = .int (M.1 k1 ((0 : Int32).toNatClampNeg + i)) := by
        show (arrV (G.2.1 0) n0 (fun j => .int (M.1 k1 j))).slots.getD _ _ = _
        rw [Array.getD_eq_getD_getElem?, arrV_read _ _ (by rw [z0]; omega)]
        rfl
      refine ⟨?_, ?_⟩
      · rw [e]; rfl
      · rw [e]; exact trivial)
    (g := F0 m pc ls (.int n :: .int 0 :: .ref (ad k2) :: .int 0 :: .ref (ad k1) :: rest)) rfl (by rw [hml]) (rest := rest) rfl (by rw [hb]; exact hdg) hroom.1 (by have := hroom.2; show 2 * 0 + _ + _ ≤ _; omega)
  have e1 : copied (vp_cell (G.2.1 0) (n0, .inl (M.1 k1))) (vp_cell (G.2.1 0) (n1, .inl (M.1 k2))) 0 0 n = vp_cell (G.2.1 0) (n1, .inl (va_cpy (M.1 k1) (M.1 k2) (0 : Int32).toNatClampNeg (0 : Int32).toNatClampNeg n.toNatClampNeg)) := va_copied (fun z => .int z) (G.2.1 0) (G.2.1 0) (M.1 k1) (M.1 k2) (by rw [z0, e3]; omega)
  rw [z0, e3] at e1
  rw [e1] at X' step
  have hl : ad k2 < H.size := (Array.getElem?_eq_some_iff.mp hc1).1
  have hheap : ((T.setVm vm').setCell (ad k2) (vp_cell (G.2.1 0) (n1, .inl (va_cpy (M.1 k1) (M.1 k2) 0 0 N)))).heap = H.setIfInBounds (ad k2) (vp_cell (G.2.1 0) (n1, .inl (va_cpy (M.1 k1) (M.1 k2) 0 0 N))) := by rw [← hT]; rfl
  have oq : ∀ q : Nat, q ≠ ad k2 → (H.setIfInBounds (ad k2) (vp_cell (G.2.1 0) (n1, .inl (va_cpy (M.1 k1) (M.1 k2) 0 0 N))))[q]? = H[q]? := fun q hq => by simp [Array.getElem?_setIfInBounds, Ne.symm hq]
  have hcell : (H.setIfInBounds (ad k2) (vp_cell (G.2.1 0) (n1, .inl (va_cpy (M.1 k1) (M.1 k2) 0 0 N))))[ad k2]? = some (vp_cell (G.2.1 0) (n1, .inl (va_cpy (M.1 k1) (M.1 k2) 0 0 N))) := by simp [Array.getElem?_setIfInBounds, hl]
  obtain ⟨t, a1, b1⟩ := kk _ _ ⟨fun k hk => by
      by_cases e : k = k2
      · subst e
        rw [cpy_s, hk2]; exact hcell
      · obtain ⟨q1, q2, q3⟩ := cpy_o (M := M) (a := k1) (sp := 0) (dp := 0) (n := N) k e
        rw [q1, q2, q3]
        exact (hI.1 k hk).kept (oq _ (fun q => e (hap _ _ hk (by rw [hk2]; simp) q))),
    by simp; exact hI.2.1, fun q g1 g2 => by
      rw [oq q (fun e => g2 (by rw [e]; exact Or.inl ⟨k2, by rw [hk2]; simp, rfl⟩))]
      exact hI.2.2.1 q g1 g2, fun q hq => by
      rcases List.mem_append.mp hq with h | h
      · exact hI.2.2.2 q h
      · obtain ⟨z, -, hz⟩ := List.mem_map.mp h
        rw [← hz]
        exact Or.inl ⟨k2, by rw [hk2]; simp, rfl⟩⟩ _ hheap X'
  exact ⟨t, step t a1, b1⟩
end GH
end
/-! part 10z.ix -/
section
/-! where the words of a throw stand: table, place -/
def tbA : Nat → List Cond
  | 0 => k2_sels lw_privs
  | 1 => tables_1_1
  | 2 => tables_1_2
  | 3 => tables_1_3
  | 4 => tables_1_4
  | 5 => tables_1_5
  | 6 => tables_1_6
  | 7 => tables_1_7
  | 8 => tables_1_8
  | 9 => tables_1_9
  | 10 => tables_1_10
  | _ => []
theorem tbA_in : ∀ (k : Nat) (w : Cond), w ∈ tbA k → w ∈ lw_tbl
  | 0, _, h => List.mem_append_left _ h
  | 1, w, h => tbl_1 w h
  | 2, w, h => tbl_2 w h
  | 3, w, h => tbl_3 w h
  | 4, w, h => tbl_4 w h
  | 5, w, h => tbl_5 w h
  | 6, w, h => tbl_6 w h
  | 7, w, h => tbl_7 w h
  | 8, w, h => tbl_8 w h
  | 9, w, h => tbl_9 w h
  | 10, w, h => tbl_10 w h
  | _ + 11, _, h => absurd h List.not_mem_nil
abbrev ix_iae : List (Nat × Nat) := [(1, 12), (4, 181), (4, 190), (4, 196), (4, 199), (4, 201), (4, 182), (4, 183), (1, 35), (1, 36), (4, 184), (4, 189), (4, 197), (4, 222), (4, 171), (4, 223), (4, 173), (4, 224), (4, 175), (4, 185), (4, 187), (4, 177), (4, 218), (4, 219), (4, 221), (4, 177), (4, 209), (4, 210), (4, 211), (4, 212), (4, 212), (4, 213), (4, 214), (4, 215), (4, 215), (4, 216), (4, 217), (4, 218), (5, 108), (4, 160), (4, 168), (4, 169), (4, 170), (4, 172), (4, 174), (4, 176), (4, 180), (4, 179), (4, 178)]
abbrev ix_ioo : List (Nat × Nat) := [(1, 12), (4, 181), (4, 190), (4, 196), (4, 199), (4, 201), (4, 182), (4, 183), (1, 35), (1, 36), (4, 184), (4, 189), (4, 197), (4, 222), (4, 171), (4, 223), (4, 173), (4, 224), (4, 175), (4, 185), (4, 187), (4, 177), (4, 218), (4, 219), (4, 221), (4, 177), (5, 18), (5, 19), (5, 20), (4, 212), (4, 212), (4, 213), (4, 214), (4, 215), (4, 215), (4, 216), (4, 217), (4, 218), (6, 29), (6, 20), (6, 22), (4, 194), (6, 23), (6, 24), (6, 25), (6, 26), (4, 180), (4, 179), (6, 27)]
abbrev ix_ise : List (Nat × Nat) := [(1, 12), (4, 181), (4, 190), (4, 196), (4, 199), (4, 201), (4, 182), (4, 183), (1, 35), (1, 36), (4, 184), (4, 189), (4, 197), (4, 222), (4, 171), (4, 223), (4, 173), (4, 224), (4, 175), (4, 185), (4, 187), (4, 177), (4, 218), (4, 219), (4, 221), (4, 177), (6, 205), (6, 206), (6, 207), (4, 212), (4, 212), (4, 213), (4, 214), (4, 215), (4, 215), (4, 216), (4, 217), (4, 218), (6, 204), (6, 195), (6, 197), (4, 193), (6, 198), (6, 199), (6, 200), (6, 201), (4, 180), (4, 179), (6, 202)]
end
/-! part 11.throw -/
section
/-! methods that may throw -/
def exN (e : Nat) : String := if e = 0 then "java/lang/IllegalArgumentException" else if e = 1 then "java/lang/IndexOutOfBoundsException" else "java/lang/IllegalStateException"
def zi (v : Int32 ⊕ Nat) : Option Value ⊕ Nat := match v with
  | .inl r => .inl (some (.int r))
  | .inr e => .inr e
def zl (v : Int64 ⊕ Nat) : Option Value ⊕ Nat := match v with
  | .inl r => .inl (some (.long r))
  | .inr e => .inr e
def zd (v : UInt64 ⊕ Nat) : Option Value ⊕ Nat := match v with
  | .inl r => .inl (some (.double r))
  | .inr e => .inr e
def zv (v : Unit ⊕ Nat) : Option Value ⊕ Nat := match v with
  | .inl _ => .inl none
  | .inr e => .inr e
def Qx (G : GT) (kd : Nat → Nat × Nat) (ad : Nat → Nat) (sz : Nat) (M : Mem) (z : Option Value ⊕ Nat) : Array Value → State → Outcome → State → Prop := fun a st oc t => ∃ v, z = .inl v ∧ Qg G kd ad sz M v a st oc t
def Xx (G : GT) (kd : Nat → Nat × Nat) (ad : Nat → Nat) (sz : Nat) (M : Mem) (z : Option Value ⊕ Nat) : String → State → State → Prop := fun E st t => ∃ e, z = .inr e ∧ E = exN e ∧ Wd G kd ad M t.heap ∧ va_F (AS kd ad sz) st t
def calx {ρ σ : Type} (x : Option (Mem × (ρ ⊕ Nat))) (k : Mem → ρ → Option (Mem × (σ ⊕ Nat))) : Option (Mem × (σ ⊕ Nat)) := match x with
  | none => none
  | some (M, .inl r) => k M r
  | some (M, .inr e) => some (M, .inr e)
theorem calx_s {ρ σ : Type} {x : Option (Mem × (ρ ⊕ Nat))} {k : Mem → ρ → Option (Mem × (σ ⊕ Nat))} {MO : Mem} {vo : σ ⊕ Nat} (h : calx x k = some (MO, vo)) : (∃ M r, x = some (M, .inl r) ∧ k M r = some (MO, vo)) ∨ ∃ e, x = some (MO, .inr e) ∧ vo = .inr e := by
  match x, h with
  | some (M, .inl r), h => exact Or.inl ⟨M, r, rfl, h⟩
  | some (M, .inr e), h => cases h; exact Or.inr ⟨e, rfl, rfl⟩
section GX
variable {p : Program} {l : Launch} {e : Env} {R : Room} {s : State} {m : MethodId} {args : Array Value} {below : List Frame} {meth : Method} {c : Code} {H : Heap} {locs : List Loc} {cells slots : Nat} {Q : State → Prop}
variable {cc : ByteArray} {pc : Nat} {ls : Array Slot} {rest : List Value} {G : GT} {kd : Nat → Nat × Nat} {ad : Nat → Nat} {M : Mem} {H0 : Heap}
theorem px_blind {sz : Nat} {av : List Value} : FrameBlind (Pg G kd ad sz av M) := pg_blind
abbrev XQ (G : GT) (kd : Nat → Nat × Nat) (ad : Nat → Nat) (below : List Frame) (args : Array Value) (s : State) (M : Mem) (z : Option Value ⊕ Nat) (mc ms : Nat) : State → Prop := vx_MQ below (Qx G kd ad s.heap.size M z) (Xx G kd ad s.heap.size M z) args s mc ms (AS kd ad s.heap.size)
theorem x_ret {v : Option Value} {g : JFrame} (k : W p l e R s m args below meth c H locs cells slots (MQ below (Qg G kd ad s.heap.size M v) args s cells slots (AS kd ad s.heap.size)) g) : W p l e R s m args below meth c H locs cells slots (XQ G kd ad below args s M (.inl v) cells slots) g := by
  intro T hT X
  obtain ⟨t, a1, o, b1, b2, b3, b4⟩ := k T hT X
  exact ⟨t, a1, o, b1, b2, Or.inl ⟨⟨v, rfl, b3⟩, b4⟩⟩
theorem x_callR {st0 : List Value} {a : Array Value} {mc ms : Nat} {M' : Mem} {v : Option Value} (hr : vx_Run p l e R s m args below meth c H locs cells slots mc ms (F0 m pc ls st0) rest (Qx G kd ad H.size M' (.inl v) a) (Xx G kd ad H.size M' (.inl v)) (AS kd ad H.size)) (hI : Inv G kd ad s.heap M H locs)
    (kk : ∀ (H1 : Heap) (locs1 : List Loc), Inv G kd ad s.heap M' H1 locs1 → W p l e R s m args below meth c H1 locs1 (cells + mc) (slots + ms) Q (F0 m (pc + 3) ls (v.toList ++ rest))) : W p l e R s m args below meth c H locs cells slots Q (F0 m pc ls st0) := by
  intro T hT X
  rcases hr T hT X with ⟨v', st₀, t, T', L, h0, X', hL, e1, e2, ⟨v2, hz, hv, hw, hF⟩, st⟩ | ⟨q, st₀, t, T', L, E, ce, h0, X', hL, e1, e2, ⟨e3, hz, -⟩, -⟩
  · cases hz
    cases hv
    obtain ⟨k1, k2, k3⟩ := vx_keep h0 e1 hI.2 (fun q hq h => AS.old hq h) (fun q h => AS.mono hI.2.1 h) hL hF
    obtain ⟨t2, a1, b1⟩ := kk T'.heap (locs ++ L) ⟨by rw [e1]; exact hw, k3⟩ T' rfl X'
    exact ⟨t2, st t2 a1, b1⟩
  · cases hz
theorem x_callT {st0 : List Value} {a : Array Value} {mc ms mcc msc : Nat} {M' : Mem} {e9 : Nat} (hr : vx_Run p l e R s m args below meth c H locs cells slots mc ms (F0 m pc ls st0) rest (Qx G kd ad H.size M' (.inr e9) a) (Xx G kd ad H.size M' (.inr e9)) (AS kd ad H.size)) (hI : Inv G kd ad s.heap M H locs)
    (htb : ∀ x ∈ c.exceptionTable.toList, False) (hlk : meth.locks = false) (hc : cells + mc ≤ mcc) (hs : slots + ms ≤ msc) : W p l e R s m args below meth c H locs cells slots (XQ G kd ad below args s M' (.inr e9) mcc msc) (F0 m pc ls st0) := by
  intro T hT X
  rcases hr T hT X with ⟨v', st₀, t, T', L, h0, X', hL, e1, e2, ⟨v2, hz, -⟩, st⟩ | ⟨q, st₀, t, T', L, E, ce, h0, X', hL, e1, e2, ⟨e3, hz, hE, hw, hF⟩, hce, hcv, hcl, st⟩
  · cases hz
  · cases hz
    obtain ⟨k1, k2, k3⟩ := vx_keep h0 e1 hI.2 (fun q hq h => AS.old hq h) (fun q h => AS.mono hI.2.1 h) hL hF
    obtain ⟨t2, a1, b1⟩ := vx_out (Qc := Qx G kd ad s.heap.size M' (.inr e9)) (XC := Xx G kd ad s.heap.size M' (.inr e9)) (free := AS kd ad s.heap.size) (pc := pc) (ls := ls) (rest := rest) (fun x hx => (htb x hx).elim) hlk (show T'.heap[q]? = some ce by rw [e1]; exact hce) hcv hcl (fun t9 ht _ => ⟨e9, rfl, hE, by rw [ht, e1]; exact hw, k3.F ht⟩) k3.2.2 hc hs T' rfl X'
    exact ⟨t2, st.trans a1, b1⟩
theorem g_runXV {b : Nat} {y : MethodName} {bytes : ByteArray} {maxL nL mc ms n index : Nat} {ret : Option FieldType} {rm : Room} {own C : String} {As : List Value} {M' : Mem} {z : Option Value ⊕ Nat} (hx : p.tables.exec = Jvm.exec) (hb : c.code = cc) (hml : c.maxLocals = nL) (hown : s.vm.findClass own = some m.cls) (hts : ∀ w ∈ WA, w.before args s = true) (hK : va_K G.1 vwCl (tyL G) s) (hap : Apt kd ad) (hsx : Sx G (AS kd ad s.heap.size) s s.heap) (hI : Inv G kd ad s.heap M H locs)
    (hM : vx_Met l y (Cond.code y bytes maxL ret :: WA) rm (Pg G kd ad H.size (.ref (ad b) :: As) M) (Qx G kd ad H.size M' z) (Xx G kd ad H.size M' z) mc ms (AS kd ad H.size)) (hcv : cvF C y bytes maxL ret n) (hl : Cond.methodLink own index y ∈ WA) (hrc : rm.cells = mc) (hrs : rm.slots = ms) (hR : rm.frames + 1 ≤ R.frames ∧ 8 + (maxL + 11) + rm.locals ≤ R.locals)
    {ci : Nat} {q : Nat × Nat} {fs : List Value} {T : u_T} {N : Nat} (hk : kd b = q) (hq : q.1 ≠ 0) (he : ent ad G.2.1 q b (M.1 b) (M.2.1 b) (M.2.2 b) = .inr (ci, fs)) (hc : vwCl[ci]? = some (C, T, N))
    (hn : As.length = n) (hsize : ls.size = nL) {st : List Value} (hst : st = As.reverse ++ .ref (ad b) :: rest) (hW : (rest.map fun v => v.category).sum ≤ 8) (hdg : decode cc pc = .ok (.invokevirtual index, 3)) (hf : cells + mc ≤ R.cells ∧ slots + ms ≤ R.slots) :
    vx_Run p l e R s m args below meth c H locs cells slots mc ms (F0 m pc ls st) rest (Qx G kd ad H.size M' z (Value.ref (ad b) :: As).toArray) (Xx G kd ad H.size M' z) (AS kd ad H.size) := by
  subst hst
  obtain ⟨c1, c2, c3, c4, c5⟩ := hcv
  have hG : GoodIn WA (wsV own index C y (Cond.code y bytes maxL ret :: WA)) := fun w h => by
    have : w ∈ WA := by
      rcases List.mem_append.mp h with h | h
      · simp only [List.mem_cons, List.not_mem_nil, or_false] at h
        rcases h with rfl | rfl | rfl | rfl
        · exact hl
        · exact c1
        · exact c2
        · exact c3
      · exact ws_good c4 w h
    exact ⟨this, wa_good w this⟩
  exact vx_runV (C := C) (b := ad b) (As := As) (rest := rest) ⟨hx, hb, hml, hown, hts⟩ hM (cwV n hts hG rfl hrc hrs c5 hR) ⟨px_blind, va_recv hK (va_P1 (hI.at hk hq he)) hc (q0 := 0) rfl, fun U hU hW => pg_of hap hK hsx hI hU hW⟩ rfl hn hsize rfl (lv_room hW) hdg hf
theorem g_runXS {y : MethodName} {bytes : ByteArray} {maxL nL mc ms n index : Nat} {ret : Option FieldType} {rm : Room} {own : String} {As : List Value} {M' : Mem} {z : Option Value ⊕ Nat} (hx : p.tables.exec = Jvm.exec) (hb : c.code = cc) (hml : c.maxLocals = nL) (hown : s.vm.findClass own = some m.cls) (hts : ∀ w ∈ WA, w.before args s = true) (hK : va_K G.1 vwCl (tyL G) s) (hap : Apt kd ad) (hsx : Sx G (AS kd ad s.heap.size) s s.heap) (hI : Inv G kd ad s.heap M H locs)
    (hM : vx_Met l y (Cond.code y bytes maxL ret :: WA) rm (Pg G kd ad H.size As M) (Qx G kd ad H.size M' z) (Xx G kd ad H.size M' z) mc ms (AS kd ad H.size)) (hcv : csF y bytes maxL ret n) (hl : Cond.methodLink own index y ∈ WA) (hrc : rm.cells = mc) (hrs : rm.slots = ms) (hR : rm.frames + 1 ≤ R.frames ∧ 8 + (maxL + 11) + rm.locals ≤ R.locals)
    (hn : As.length = n) (hsize : ls.size = nL) {st : List Value} (hst : st = As.reverse ++ rest) (hW : (rest.map fun v => v.category).sum ≤ 8) (hdg : decode cc pc = .ok (.invokestatic index, 3)) (hf : cells + mc ≤ R.cells ∧ slots + ms ≤ R.slots) :
    vx_Run p l e R s m args below meth c H locs cells slots mc ms (F0 m pc ls st) rest (Qx G kd ad H.size M' z As.toArray) (Xx G kd ad H.size M' z) (AS kd ad H.size) := by
  subst hst
  obtain ⟨c1, c3, c4, c5⟩ := hcv
  have hG : GoodIn WA (va_wsS own index y (Cond.code y bytes maxL ret :: WA)) := fun w h => by
    have : w ∈ WA := by
      rcases List.mem_append.mp h with h | h
      · simp only [List.mem_cons, List.not_mem_nil, or_false] at h
        rcases h with rfl | rfl | rfl
        · exact hl
        · exact c1
        · exact c3
      · exact ws_good c4 w h
    exact ⟨this, wa_good w this⟩
  exact vx_runS (As := As) (rest := rest) ⟨hx, hb, hml, hown, hts⟩ hM (va_cwS n hts hG rfl hrc hrs c5 hR) ⟨px_blind, fun U hU hW => pg_of hap hK hsx hI hU hW⟩ rfl hn hsize rfl (lv_room hW) hdg hf
theorem x_callRi {st0 : List Value} {a : Array Value} {mc ms : Nat} {M' : Mem} {r : Int32} (hr : vx_Run p l e R s m args below meth c H locs cells slots mc ms (F0 m pc ls st0) rest (Qx G kd ad H.size M' (.inl (some (.int r))) a) (Xx G kd ad H.size M' (.inl (some (.int r)))) (AS kd ad H.size)) (hI : Inv G kd ad s.heap M H locs)
    (kk : ∀ (H1 : Heap) (locs1 : List Loc), Inv G kd ad s.heap M' H1 locs1 → W p l e R s m args below meth c H1 locs1 (cells + mc) (slots + ms) Q (F0 m (pc + 3) ls ((.int r) :: rest))) : W p l e R s m args below meth c H locs cells slots Q (F0 m pc ls st0) := x_callR hr hI kk
theorem x_callRl {st0 : List Value} {a : Array Value} {mc ms : Nat} {M' : Mem} {r : Int64} (hr : vx_Run p l e R s m args below meth c H locs cells slots mc ms (F0 m pc ls st0) rest (Qx G kd ad H.size M' (.inl (some (.long r))) a) (Xx G kd ad H.size M' (.inl (some (.long r)))) (AS kd ad H.size)) (hI : Inv G kd ad s.heap M H locs)
    (kk : ∀ (H1 : Heap) (locs1 : List Loc), Inv G kd ad s.heap M' H1 locs1 → W p l e R s m args below meth c H1 locs1 (cells + mc) (slots + ms) Q (F0 m (pc + 3) ls ((.long r) :: rest))) : W p l e R s m args below meth c H locs cells slots Q (F0 m pc ls st0) := x_callR hr hI kk
theorem x_callRd {st0 : List Value} {a : Array Value} {mc ms : Nat} {M' : Mem} {r : UInt64} (hr : vx_Run p l e R s m args below meth c H locs cells slots mc ms (F0 m pc ls st0) rest (Qx G kd ad H.size M' (.inl (some (.double r))) a) (Xx G kd ad H.size M' (.inl (some (.double r)))) (AS kd ad H.size)) (hI : Inv G kd ad s.heap M H locs)
    (kk : ∀ (H1 : Heap) (locs1 : List Loc), Inv G kd ad s.heap M' H1 locs1 → W p l e R s m args below meth c H1 locs1 (cells + mc) (slots + ms) Q (F0 m (pc + 3) ls ((.double r) :: rest))) : W p l e R s m args below meth c H locs cells slots Q (F0 m pc ls st0) := x_callR hr hI kk
theorem x_callRv {st0 : List Value} {a : Array Value} {mc ms : Nat} {M' : Mem} (hr : vx_Run p l e R s m args below meth c H locs cells slots mc ms (F0 m pc ls st0) rest (Qx G kd ad H.size M' (.inl none) a) (Xx G kd ad H.size M' (.inl none)) (AS kd ad H.size)) (hI : Inv G kd ad s.heap M H locs)
    (kk : ∀ (H1 : Heap) (locs1 : List Loc), Inv G kd ad s.heap M' H1 locs1 → W p l e R s m args below meth c H1 locs1 (cells + mc) (slots + ms) Q (F0 m (pc + 3) ls rest)) : W p l e R s m args below meth c H locs cells slots Q (F0 m pc ls st0) := x_callR hr hI kk
theorem x_throw {own cls text : String} {names : List String} {ik is ic mc ms e9 nL : Nat} (w : Bool) (hx : p.tables.exec = Jvm.exec) (hb : c.code = cc) (hst : l.stackTraces = false) (hml : c.maxLocals = nL) (hown : s.vm.findClass own = some m.cls) (hts : ∀ w ∈ WA, w.before args s = true) (hlk : meth.locks = false) (hsx : Sx G (AS kd ad s.heap.size) s s.heap) (htb : ∀ x ∈ c.exceptionTable.toList, False)
    (hfit : Bundle.fit cls = true) (hnames : ∀ n ∈ names, Bundle.fit n = true) (hk : Cond.classLink own ik cls ∈ WA) (hini : Cond.initialized cls ∈ WA) (hmsg : (own, is, text) ∈ sxMsgs) (hat : ∀ w ∈ (vx_atS own ic cls names).filter goodWord, w ∈ lw_tbl) (hnb : ∀ w ∈ (vx_atS own ic cls names).filter (fun w => !goodWord w), w ∈ sxW)
    (hgood : ∀ w ∈ Cond.classLink own ik cls :: Cond.initialized cls :: vx_atS own ic cls names, vx_ot w = true) (he : cls = exN e9) (hI : Inv G kd ad s.heap M H locs) (hsize : ls.size = nL)
    (d0 : decode cc pc = .ok (.new ik, 3)) (d3 : decode cc (pc + 3) = .ok (.dup, 1)) (d4 : decode cc (pc + 4) = .ok (if w then .ldc_w is else .ldc is, if w then 3 else 2)) (d7 : decode cc (pc + (if w then 7 else 6)) = .ok (.invokespecial ic, 3)) (d10 : decode cc (pc + (if w then 10 else 9)) = .ok (.athrow, 1))
    (hRframes : names.length + 3 < R.frames) (hRlocals : (rest.map fun v => v.category).sum + (13 * (names.length + 1) + 43) ≤ R.locals) (hR : cells + 1 ≤ R.cells ∧ slots + 6 ≤ R.slots) (hc : cells + 1 ≤ mc) (hs : slots + 6 ≤ ms) :
    W p l e R s m args below meth c H locs cells slots (XQ G kd ad below args s M (.inr e9) mc ms) (F0 m pc ls rest) := by
  obtain ⟨sa, hR0⟩ := hsx.2.2.1 _ hmsg
  have hat' : ∀ w ∈ vx_atS own ic cls names, w.before args s = true := vx_hat (fun w hw => hts w (wa_m (hat w hw) (List.mem_filter.mp hw).2)) hnb (fun w hw => va_any (sxW_on w hw) (hsx.2.2.2.1.1 w hw))
  have hX : ∀ t : State, s.vm.Alike t.vm → H.size ≤ t.heap.size → (∀ q : Nat, q < H.size → t.heap[q]? = H[q]?) → Xx G kd ad s.heap.size M (.inr e9) cls s t := fun t _ hz hq =>
    ⟨e9, rfl, he, hI.1.kept (fun k hk => hq _ (hI.1.lt hk)), Nat.le_trans hI.2.1 hz, fun q h1 h2 => (hq q (Nat.lt_of_lt_of_le h1 hI.2.1)).trans (hI.2.2.1 q h1 h2)⟩
  cases w with
  | true => exact vx_throwSW hx hb hst hown hfit hnames (hts _ hk) (hts _ hini) hR0 hat' hgood hsx.1 hsx.2.1 hI.2 (hsize.trans hml.symm) d0 d3 d4 d7 d10 (fun x hx => (htb x hx).elim) hRframes hRlocals hR.1 hR.2 hlk hX hI.2.2.2 hc hs
  | false => exact vx_throwS hx hb hst hown hfit hnames (hts _ hk) (hts _ hini) hR0 hat' hgood hsx.1 hsx.2.1 hI.2 (hsize.trans hml.symm) d0 d3 d4 d7 d10 (fun x hx => (htb x hx).elim) hRframes hRlocals hR.1 hR.2 hlk hX hI.2.2.2 hc hs
theorem at_of {L : List Cond} (ix : List (Nat × Nat)) (h : L.map some = ix.map (fun i => (tbA i.1)[i.2]?)) : ∀ w ∈ L, w ∈ lw_tbl := fun w hw => by
  have h1 : some w ∈ ix.map (fun i => (tbA i.1)[i.2]?) := by rw [← h]; exact List.mem_map.mpr ⟨w, hw, rfl⟩
  obtain ⟨i, _, e⟩ := List.mem_map.mp h1
  exact tbA_in i.1 w (List.mem_of_getElem? e)
theorem at_iae : ∀ w ∈ (vx_atS RX6 70 "java/lang/IllegalArgumentException" ["java/lang/RuntimeException", "java/lang/Exception"]).filter goodWord, w ∈ lw_tbl := at_of ix_iae (by decide +kernel)
theorem at_ioo : ∀ w ∈ (vx_atS RX6 180 "java/lang/IndexOutOfBoundsException" ["java/lang/RuntimeException", "java/lang/Exception"]).filter goodWord, w ∈ lw_tbl := at_of ix_ioo (by decide +kernel)
theorem at_ise : ∀ w ∈ (vx_atS RX6 280 "java/lang/IllegalStateException" ["java/lang/RuntimeException", "java/lang/Exception"]).filter goodWord, w ∈ lw_tbl := at_of ix_ise (by decide +kernel)
theorem nb_iae : ∀ w ∈ (vx_atS RX6 70 "java/lang/IllegalArgumentException" ["java/lang/RuntimeException", "java/lang/Exception"]).filter (fun w => !goodWord w), w ∈ sxW := by decide +kernel
theorem nb_ioo : ∀ w ∈ (vx_atS RX6 180 "java/lang/IndexOutOfBoundsException" ["java/lang/RuntimeException", "java/lang/Exception"]).filter (fun w => !goodWord w), w ∈ sxW := by decide +kernel
theorem nb_ise : ∀ w ∈ (vx_atS RX6 280 "java/lang/IllegalStateException" ["java/lang/RuntimeException", "java/lang/Exception"]).filter (fun w => !goodWord w), w ∈ sxW := by decide +kernel
theorem fit_n : ∀ n ∈ (["java/lang/RuntimeException", "java/lang/Exception"] : List String), Bundle.fit n = true := by decide +kernel
theorem g_bodyX {y : MethodName} {bytes : ByteArray} {maxL mc ms n : Nat} {ret : Option FieldType} {own : String} {As : List Value} {M' : Mem} {z : Option Value ⊕ Nat} {d : Nat} (hy : plainName y.cls = true) (hyo : y.cls = own)
    (body : ∀ p e s m args below meth c, Cx p s m args meth c bytes maxL ret own G kd ad → (∀ x ∈ c.exceptionTable.toList, False) → s.heap.size = n → At p l e (rmO d mc ms) s m args below meth c 0 0 (XQ G kd ad below args s M' z mc ms) G kd ad maxL 0 (lv_args 0 As) [] M) (hlen : (lg_sl As).length ≤ maxL) :
    vx_Met l y (Cond.code y bytes maxL ret :: WA) (rmO d mc ms) (Pg G kd ad n As M) (Qx G kd ad n M' z) (Xx G kd ad n M' z) mc ms (AS kd ad n) := by
  refine vx_ofW (cc := bytes) (maxL := maxL) (ret := ret) hy rfl ?_
  intro p e s m args below meth c s₁ B hml htb hv
  obtain ⟨rfl, hsz, hw, hap, hK, hsx⟩ := hv
  have hts := atoms_spec (ws := Cond.code y bytes maxL ret :: WA) B.pre
  have hown : s.vm.findClass own = some m.cls := hyo ▸ findClass_of_methodNamed B.named
  subst hsz
  have hl := lv_entry As (n := maxL) hlen
  rw [lg_entry_eq]
  generalize (lg_sl As ++ List.replicate (maxL - (lg_sl As).length) Slot.unset).toArray = ls at hl ⊢
  exact body p e s m _ below meth c ⟨B.exec, B.bytes, hml, B.returns, hown, fun w h => hts w (List.mem_cons_of_mem _ h), B.notSynchronized, hK, hap, hsx⟩ htb rfl _ _ ls ⟨hw, va_S.rf⟩ hl
end GX
end
/-! part 12.gd -/
section
theorem gd_iae_66 : ∀ w ∈ Cond.classLink RX6 66 "java/lang/IllegalArgumentException" :: Cond.initialized "java/lang/IllegalArgumentException" :: vx_atS RX6 70 "java/lang/IllegalArgumentException" ["java/lang/RuntimeException", "java/lang/Exception"], vx_ot w = true := by decide +kernel
theorem gd_ioo_176 : ∀ w ∈ Cond.classLink RX6 176 "java/lang/IndexOutOfBoundsException" :: Cond.initialized "java/lang/IndexOutOfBoundsException" :: vx_atS RX6 180 "java/lang/IndexOutOfBoundsException" ["java/lang/RuntimeException", "java/lang/Exception"], vx_ot w = true := by decide +kernel
theorem gd_ise_276 : ∀ w ∈ Cond.classLink RX6 276 "java/lang/IllegalStateException" :: Cond.initialized "java/lang/IllegalStateException" :: vx_atS RX6 280 "java/lang/IllegalStateException" ["java/lang/RuntimeException", "java/lang/Exception"], vx_ot w = true := by decide +kernel
end
/-! part 13.strs -/
section
/-! rows over String constants, Word.ALL, Integer's digits -/
theorem sl_3 {x0 x1 : Int32} {o : Value} (h : o.category = 1) : (lg_sl [.int x0, .int x1, o]).length ≤ 3 := by
  have h2 : ¬ o.category = 2 := by rw [h]; decide
  unfold lg_sl
  rw [List.flatMap_cons, List.flatMap_cons, List.flatMap_cons, List.flatMap_nil, if_neg h2]
  exact Nat.le_refl 3
section STR
variable {p : Program} {l : Launch} {e : Env} {R : Room} {s : State} {m : MethodId} {args : Array Value} {below : List Frame} {meth : Method} {c : Code} {H : Heap} {locs : List Loc} {cells slots : Nat} {Q : State → Prop}
variable {cc : ByteArray} {pc : Nat} {ls : Array Slot} {rest : List Value} {G : GT} {kd : Nat → Nat × Nat} {ad : Nat → Nat} {M : Mem}
theorem g_ldcS {own tx : String} {index i : Nat} (hq : (own, index, tx, i) ∈ sxStr) (hx : p.tables.exec = Jvm.exec) (hb : c.code = cc) (hown : s.vm.findClass own = some m.cls) (hsx : Sx G (AS kd ad s.heap.size) s s.heap) (hdg : decode cc pc = .ok (.ldc index, 2)) (kk : W p l e R s m args below meth c H locs cells slots Q (F0 m (pc + 2) ls (.ref (G.2.2 (100 + i)) :: rest))) : W p l e R s m args below meth c H locs cells slots Q (F0 m pc ls (rest)) := by
  have hZ := hsx.2.2.2.1.2.2.1 _ hq
  exact va_ldcS (index := index) (tx := tx) (q := G.2.2 (100 + i)) hx hb hown hZ hdg kk
theorem g_ldcwS {own tx : String} {index i : Nat} (hq : (own, index, tx, i) ∈ sxStr) (hx : p.tables.exec = Jvm.exec) (hb : c.code = cc) (hown : s.vm.findClass own = some m.cls) (hsx : Sx G (AS kd ad s.heap.size) s s.heap) (hdg : decode cc pc = .ok (.ldc_w index, 3)) (kk : W p l e R s m args below meth c H locs cells slots Q (F0 m (pc + 3) ls (.ref (G.2.2 (100 + i)) :: rest))) : W p l e R s m args below meth c H locs cells slots Q (F0 m pc ls (rest)) := by
  have hZ := hsx.2.2.2.1.2.2.1 _ hq
  intro T hT X
  obtain ⟨t, a1, b1⟩ := kk T hT X
  obtain ⟨k, cf, i', a', hk, hcf, hcp, -, hr, hev'⟩ := Cond.stringRef_spec hown hZ.1
  cases hZ.2.symm.trans hev'
  obtain ⟨k', hk', he⟩ := X.warmed.alike.2.2 _ _ hk
  have hr' : k'.resolved[index]? = some (some (.string (G.2.2 (100 + i)))) := by
    rcases X.warmed.entry hk hk' index with h | ⟨h, -⟩
    · rw [h]; exact hr
    · rw [hr] at h; cases h
  refine ⟨t, ?_, b1⟩
  have hdg' : decode c.code (F0 m pc ls rest).pc = .ok (.ldc_w index, 3) := by rw [hb]; exact hdg
  jvm_step X.here [hx, hdg', ldc_w.wp_string (e := e) (s := T) (f := F0 m pc ls rest) X.here.top hk' (by rw [he]; exact hcf) hcp hr']
  exact a1
theorem g_wtext (hx : p.tables.exec = Jvm.exec) (hb : c.code = cc) {own : String} {index : Nat} (hown : s.vm.findClass own = some m.cls) (hts : ∀ w ∈ WA, w.before args s = true) (hsx : Sx G (AS kd ad s.heap.size) s s.heap) (hI : Inv G kd ad s.heap M H locs) {b : Nat} (hbw : b < 11) (hlink : Cond.fieldLink own index "SheetFolder$Word" "text" "Ljava/lang/String;" ∈ WA) (hdg : decode cc pc = .ok (.getfield index, 3)) (kk : W p l e R s m args below meth c H locs cells slots Q (F0 m (pc + 3) ls (.ref (G.2.2 (100 + b)) :: rest))) : W p l e R s m args below meth c H locs cells slots Q (F0 m pc ls (.ref (G.2.2 b) :: rest)) :=
  va_getX (v := fun i => .ref (G.2.2 (100 + i))) hx hb hsx.2.2.2.1.2.2.2.1 hbw hI.2 hown (hts _ hlink) (fun _ h => h) hdg kk
theorem g_sval (hx : p.tables.exec = Jvm.exec) (hb : c.code = cc) {own : String} {index : Nat} (hown : s.vm.findClass own = some m.cls) (hts : ∀ w ∈ WA, w.before args s = true) (hsx : Sx G (AS kd ad s.heap.size) s s.heap) (hI : Inv G kd ad s.heap M H locs) {i : Nat} (hi : i < 12) (hlink : Cond.fieldLink own index "java/lang/String" "value" "[B" ∈ WA) (hdg : decode cc pc = .ok (.getfield index, 3)) (kk : W p l e R s m args below meth c H locs cells slots Q (F0 m (pc + 3) ls (.ref (G.2.2 (200 + i)) :: rest))) : W p l e R s m args below meth c H locs cells slots Q (F0 m pc ls (.ref (G.2.2 (100 + i)) :: rest)) :=
  vk_getf hx hb (hsx.2.2.2.1.2.1 i hi).2.2.1 hI.2 hown (hts _ hlink) (fun _ h => h) hdg kk
theorem g_scod (hx : p.tables.exec = Jvm.exec) (hb : c.code = cc) {own : String} {index : Nat} (hown : s.vm.findClass own = some m.cls) (hts : ∀ w ∈ WA, w.before args s = true) (hsx : Sx G (AS kd ad s.heap.size) s s.heap) (hI : Inv G kd ad s.heap M H locs) {i : Nat} (hi : i < 12) (hlink : Cond.fieldLink own index "java/lang/String" "coder" "B" ∈ WA) (hdg : decode cc pc = .ok (.getfield index, 3)) (kk : W p l e R s m args below meth c H locs cells slots Q (F0 m (pc + 3) ls (.int 0 :: rest))) : W p l e R s m args below meth c H locs cells slots Q (F0 m pc ls (.ref (G.2.2 (100 + i)) :: rest)) :=
  vk_getf hx hb (hsx.2.2.2.1.2.1 i hi).2.1 hI.2 hown (hts _ hlink) (fun _ h => h) hdg kk
theorem g_svlen (hx : p.tables.exec = Jvm.exec) (hb : c.code = cc) (hsx : Sx G (AS kd ad s.heap.size) s s.heap) (hI : Inv G kd ad s.heap M H locs) {i : Nat} (hi : i < 12) (hdg : decode cc pc = .ok (.arraylength, 1)) (kk : W p l e R s m args below meth c H locs cells slots Q (F0 m (pc + 1) ls (.int (Int32.ofNat (stLen i)) :: rest))) : W p l e R s m args below meth c H locs cells slots Q (F0 m pc ls (.ref (G.2.2 (200 + i)) :: rest)) :=
  va_tlen hx hb (hsx.2.2.2.1.2.1 i hi).2.2.2 hI.2 rfl hdg kk
theorem g_svld (hx : p.tables.exec = Jvm.exec) (hb : c.code = cc) (hsx : Sx G (AS kd ad s.heap.size) s s.heap) (hI : Inv G kd ad s.heap M H locs) {i : Nat} (hi : i < 12) {x : Int32} (hin : vp_in x (stLen i)) (hdg : decode cc pc = .ok (.baload, 1)) (kk : W p l e R s m args below meth c H locs cells slots Q (F0 m (pc + 1) ls (.int ((stB i).getD x.toNatClampNeg 0) :: rest))) : W p l e R s m args below meth c H locs cells slots Q (F0 m pc ls (.int x :: .ref (G.2.2 (200 + i)) :: rest)) :=
  va_tb hx hb (hsx.2.2.2.1.2.1 i hi).2.2.2 hI.2 hin rfl hdg kk
theorem g_gsall (hx : p.tables.exec = Jvm.exec) (hb : c.code = cc) {own : String} {index : Nat} (hown : s.vm.findClass own = some m.cls) (hts : ∀ w ∈ WA, w.before args s = true) (hsx : Sx G (AS kd ad s.heap.size) s s.heap) (hI : Inv G kd ad s.heap M H locs) (hlink : Cond.fieldLink own index "SheetFolder$Word" "ALL" "[LSheetFolder$Word;" ∈ WA) (hdg : decode cc pc = .ok (.getstatic index, 3)) (kk : W p l e R s m args below meth c H locs cells slots Q (F0 m (pc + 3) ls (.ref (G.2.2 50) :: rest))) : W p l e R s m args below meth c H locs cells slots Q (F0 m pc ls (rest)) :=
  va_gets hx hb hsx.2.2.2.1.2.2.2.2.1.1 hI.2 hown (hts _ hlink) (fun _ h => h) hdg kk
theorem g_allen (hx : p.tables.exec = Jvm.exec) (hb : c.code = cc) (hsx : Sx G (AS kd ad s.heap.size) s s.heap) (hI : Inv G kd ad s.heap M H locs) (hdg : decode cc pc = .ok (.arraylength, 1)) (kk : W p l e R s m args below meth c H locs cells slots Q (F0 m (pc + 1) ls (.int 11 :: rest))) : W p l e R s m args below meth c H locs cells slots Q (F0 m pc ls (.ref (G.2.2 50) :: rest)) :=
  va_tlen hx hb hsx.2.2.2.1.2.2.2.2.1.2 hI.2 rfl hdg kk
theorem g_alld (hx : p.tables.exec = Jvm.exec) (hb : c.code = cc) (hsx : Sx G (AS kd ad s.heap.size) s s.heap) (hI : Inv G kd ad s.heap M H locs) {x : Int32} (hin : vp_in x 11) (hdg : decode cc pc = .ok (.aaload, 1)) (kk : W p l e R s m args below meth c H locs cells slots Q (F0 m (pc + 1) ls (.ref (G.2.2 x.toNatClampNeg) :: rest))) : W p l e R s m args below meth c H locs cells slots Q (F0 m pc ls (.int x :: .ref (G.2.2 50) :: rest)) :=
  vb_tq hx hb hsx.2.2.2.1.2.2.2.2.1.2 hI.2 hin rfl hdg kk
theorem g_gscs (hx : p.tables.exec = Jvm.exec) (hb : c.code = cc) {own : String} {index : Nat} (hown : s.vm.findClass own = some m.cls) (hts : ∀ w ∈ WA, w.before args s = true) (hsx : Sx G (AS kd ad s.heap.size) s s.heap) (hI : Inv G kd ad s.heap M H locs) (hlink : Cond.fieldLink own index "java/lang/String" "COMPACT_STRINGS" "Z" ∈ WA) (hdg : decode cc pc = .ok (.getstatic index, 3)) (kk : W p l e R s m args below meth c H locs cells slots Q (F0 m (pc + 3) ls (.int 1 :: rest))) : W p l e R s m args below meth c H locs cells slots Q (F0 m pc ls (rest)) :=
  va_gets hx hb hsx.2.2.2.1.2.2.2.2.2.1 hI.2 hown (hts _ hlink) (fun _ h => h) hdg kk
theorem g_gsfm (hx : p.tables.exec = Jvm.exec) (hb : c.code = cc) {own : String} {index : Nat} (hown : s.vm.findClass own = some m.cls) (hts : ∀ w ∈ WA, w.before args s = true) (hsx : Sx G (AS kd ad s.heap.size) s s.heap) (hI : Inv G kd ad s.heap M H locs) (hlink : Cond.fieldLink own index "jdk/internal/util/Preconditions" "SIOOBE_FORMATTER" "Ljava/util/function/BiFunction;" ∈ WA) (hdg : decode cc pc = .ok (.getstatic index, 3)) (kk : ∀ fv : Value, fv.category = 1 → W p l e R s m args below meth c H locs cells slots Q (F0 m (pc + 3) ls (fv :: rest))) : W p l e R s m args below meth c H locs cells slots Q (F0 m pc ls (rest)) := by
  obtain ⟨v, h0, hv⟩ := hsx.2.2.2.1.2.2.2.2.2.2.1
  exact va_gets hx hb hv hI.2 hown (hts _ hlink) (fun _ h => h) hdg (kk v h0)
theorem g_gsd1 (hx : p.tables.exec = Jvm.exec) (hb : c.code = cc) {own : String} {index : Nat} (hown : s.vm.findClass own = some m.cls) (hts : ∀ w ∈ WA, w.before args s = true) (hsx : Sx G (AS kd ad s.heap.size) s s.heap) (hI : Inv G kd ad s.heap M H locs) (hlink : Cond.fieldLink own index "java/lang/Integer" "DigitOnes" "[B" ∈ WA) (hdg : decode cc pc = .ok (.getstatic index, 3)) (kk : W p l e R s m args below meth c H locs cells slots Q (F0 m (pc + 3) ls (.ref (G.2.2 51) :: rest))) : W p l e R s m args below meth c H locs cells slots Q (F0 m pc ls (rest)) :=
  va_gets hx hb hsx.2.2.2.1.2.2.2.2.2.2.2.1.1 hI.2 hown (hts _ hlink) (fun _ h => h) hdg kk
theorem g_gsd2 (hx : p.tables.exec = Jvm.exec) (hb : c.code = cc) {own : String} {index : Nat} (hown : s.vm.findClass own = some m.cls) (hts : ∀ w ∈ WA, w.before args s = true) (hsx : Sx G (AS kd ad s.heap.size) s s.heap) (hI : Inv G kd ad s.heap M H locs) (hlink : Cond.fieldLink own index "java/lang/Integer" "DigitTens" "[B" ∈ WA) (hdg : decode cc pc = .ok (.getstatic index, 3)) (kk : W p l e R s m args below meth c H locs cells slots Q (F0 m (pc + 3) ls (.ref (G.2.2 52) :: rest))) : W p l e R s m args below meth c H locs cells slots Q (F0 m pc ls (rest)) :=
  va_gets hx hb hsx.2.2.2.1.2.2.2.2.2.2.2.2.1 hI.2 hown (hts _ hlink) (fun _ h => h) hdg kk
theorem g_d1ld (hx : p.tables.exec = Jvm.exec) (hb : c.code = cc) (hsx : Sx G (AS kd ad s.heap.size) s s.heap) (hI : Inv G kd ad s.heap M H locs) {x : Int32} (hin : vp_in x 100) (hdg : decode cc pc = .ok (.baload, 1)) (kk : W p l e R s m args below meth c H locs cells slots Q (F0 m (pc + 1) ls (.int (dgOnes.getD x.toNatClampNeg 0) :: rest))) : W p l e R s m args below meth c H locs cells slots Q (F0 m pc ls (.int x :: .ref (G.2.2 51) :: rest)) :=
  va_tb hx hb hsx.2.2.2.1.2.2.2.2.2.2.2.1.2 hI.2 hin rfl hdg kk
theorem g_d2ld (hx : p.tables.exec = Jvm.exec) (hb : c.code = cc) (hsx : Sx G (AS kd ad s.heap.size) s s.heap) (hI : Inv G kd ad s.heap M H locs) {x : Int32} (hin : vp_in x 100) (hdg : decode cc pc = .ok (.baload, 1)) (kk : W p l e R s m args below meth c H locs cells slots Q (F0 m (pc + 1) ls (.int (dgTens.getD x.toNatClampNeg 0) :: rest))) : W p l e R s m args below meth c H locs cells slots Q (F0 m pc ls (.int x :: .ref (G.2.2 52) :: rest)) :=
  va_tb hx hb hsx.2.2.2.1.2.2.2.2.2.2.2.2.2 hI.2 hin rfl hdg kk
theorem st_recv (hsx : Sx G (AS kd ad s.heap.size) s s.heap) {i : Nat} (hi : i < 12) (hI : Inv G kd ad s.heap M H locs) : ∃ cell : Cell, H[G.2.2 (100 + i)]? = some cell ∧ cell.vm.isStatics = false ∧ s.vm.findClass "java/lang/String" = some cell.cls := by
  obtain ⟨cell, h1, h2, h3, -⟩ := (hsx.2.2.2.1.2.1 i hi).1.kept hI.2.2.1
  exact ⟨cell, h1, h2, h3⟩
theorem g_callTi {b : Nat} {y : MethodName} {bytes : ByteArray} {maxL nL mc ms n index : Nat} {ret : Option FieldType} {rm : Room} {own : String} {As : List Value} {M' : Mem} {r : Int32} (hx : p.tables.exec = Jvm.exec) (hb : c.code = cc) (hml : c.maxLocals = nL) (hown : s.vm.findClass own = some m.cls) (hts : ∀ w ∈ WA, w.before args s = true) (hK : va_K G.1 vwCl (tyL G) s) (hap : Apt kd ad) (hsx : Sx G (AS kd ad s.heap.size) s s.heap) (hI : Inv G kd ad s.heap M H locs)
    (hM : Met l y (Cond.code y bytes maxL ret :: WA) rm (Pg G kd ad H.size (.ref (G.2.2 (100 + b)) :: As) M) (Qg G kd ad H.size M' (some (.int r))) mc ms (AS kd ad H.size)) (hcv : cvF "java/lang/String" y bytes maxL ret n) (hl : Cond.methodLink own index y ∈ WA) (hrc : rm.cells = mc) (hrs : rm.slots = ms) (hR : rm.frames + 1 ≤ R.frames ∧ 8 + (maxL + 11) + rm.locals ≤ R.locals)
    (hbw : b < 12) (hn : As.length = n) (hsize : ls.size = nL) {st : List Value} (hst : st = As.reverse ++ .ref (G.2.2 (100 + b)) :: rest) (hW : (rest.map fun v => v.category).sum ≤ 8) (hdg : decode cc pc = .ok (.invokevirtual index, 3)) (hf : cells + mc ≤ R.cells ∧ slots + ms ≤ R.slots)
    (kk : ∀ (H1 : Heap) (locs1 : List Loc), Inv G kd ad s.heap M' H1 locs1 → W p l e R s m args below meth c H1 locs1 (cells + mc) (slots + ms) Q (F0 m (pc + 3) ls (.int r :: rest))) : W p l e R s m args below meth c H locs cells slots Q (F0 m pc ls st) := by
  subst hst
  obtain ⟨c1, c2, c3, c4, c5⟩ := hcv
  have hG : GoodIn WA (wsV own index "java/lang/String" y (Cond.code y bytes maxL ret :: WA)) := fun w h => by
    have : w ∈ WA := by
      rcases List.mem_append.mp h with h | h
      · simp only [List.mem_cons, List.not_mem_nil, or_false] at h
        rcases h with rfl | rfl | rfl | rfl
        · exact hl
        · exact c1
        · exact c2
        · exact c3
      · exact ws_good c4 w h
    exact ⟨this, wa_good w this⟩
  exact g_call (va_runV (C := "java/lang/String") (b := G.2.2 (100 + b)) (As := As) (rest := rest) ⟨hx, hb, hml, hown, hts⟩ hM (cwV n hts hG rfl hrc hrs c5 hR) ⟨pg_blind, st_recv hsx hbw hI, fun U hU hW => pg_of hap hK hsx hI hU hW⟩ rfl hn hsize rfl (lv_room hW) hdg hf) hI kk
end STR
end
/-! part 14.cS -/
section
def mJ3_checkIndex_8e157_b9 (M : Mem) : Option Int32 := none
set_option maxHeartbeats 4000000 in
set_option maxRecDepth 100000 in
theorem tJ3_checkIndex_8e157_b9 {p : Program} {l : Launch} {e : Env} {s : State} {m : MethodId} {args : Array Value} {below : List Frame} {meth : Method} {c : Code} {G : GT} {kd : Nat → Nat × Nat} {ad : Nat → Nat} (C : Cx p s m args meth c cJ3_checkIndex_8e157 3 (some .int) RJ3 G kd ad)  {M : Mem} {vo : Int32}   : mJ3_checkIndex_8e157_b9  M = some vo → At p l e (rmO 0 0 0) s m args below meth c 0 0 (MQ below (Qg G kd ad s.heap.size M (some (.int vo))) args s 0 0 (AS kd ad s.heap.size)) G kd ad 3 9 [] [] M := by
  intro hf H locs ls hI hl
  obtain ⟨hx, hb, hml, hr, hown, hts, hlk, hK, hap, hsx⟩ := id C
  unfold mJ3_checkIndex_8e157_b9 at hf
  cases hf
def mJ3_checkIndex_8e157 (x0 : Int32) (x1 : Int32) (M : Mem) : Option Int32 := ite2 (x0 < 0) (mJ3_checkIndex_8e157_b9  M) (ite2 (x0 < x1) (some x0) (mJ3_checkIndex_8e157_b9  M))
set_option maxHeartbeats 4000000 in
set_option maxRecDepth 100000 in
theorem tJ3_checkIndex_8e157 (l : Launch) {G : GT} {kd : Nat → Nat × Nat} {ad : Nat → Nat}  {x0 : Int32} {x1 : Int32} {o2 : Value} (ho2 : o2.category = 1) {M : Mem} {vo : Int32} (hf : mJ3_checkIndex_8e157  x0 x1 M = some vo) (n : Nat) : Met l yJ3_checkIndex_8e157 (Cond.code yJ3_checkIndex_8e157 cJ3_checkIndex_8e157 3 (some .int) :: WA) (rmO 0 0 0) (Pg G kd ad n [.int x0, .int x1, o2] M) (Qg G kd ad n M (some (.int vo))) 0 0 (AS kd ad n) := by
  refine g_body (own := RJ3) (by decide) rfl ?_ (sl_3 ho2)
  intro p e s m args below meth c C _ H locs ls hI hl
  obtain ⟨hx, hb, hml, hr, hown, hts, hlk, hK, hap, hsx⟩ := id C
  have hl : lv_has ls 3 [(0, .int x0), (1, .int x1), (2, o2)] := hl
  unfold mJ3_checkIndex_8e157 at hf
  refine lv_iload_n hx hb (dc tbJ3_checkIndex_8e157_k 0 rfl) rfl (lv_at hl 0 rfl) ?_
  refine lv_if_lt (tgt := 9) hx hb (dc tbJ3_checkIndex_8e157_k 1 rfl) rfl (fun c1 => ?_) (fun c1 => ?_)
  · have hf := ite_t c1 hf
    exact tJ3_checkIndex_8e157_b9 C  hf _ _ _ hI (lv_sub hl [] rfl)
  · have hf := ite_f c1 hf
    refine lv_iload_n hx hb (dc tbJ3_checkIndex_8e157_k 2 rfl) rfl (lv_at hl 0 rfl) ?_
    refine lv_iload_n hx hb (dc tbJ3_checkIndex_8e157_k 3 rfl) rfl (lv_at hl 1 rfl) ?_
    refine lv_icmp_lt (tgt := 16) hx hb (dc tbJ3_checkIndex_8e157_k 4 rfl) rfl (fun c2 => ?_) (fun c2 => ?_)
    · have hf := ite_t c2 hf
      refine lv_iload_n hx hb (dc tbJ3_checkIndex_8e157_k 10 rfl) rfl (lv_at hl 0 rfl) ?_
      cases hf
      exact g_iret hx hb hr hlk hI (dc tbJ3_checkIndex_8e157_k 11 rfl)
    · have hf := ite_f c2 hf
      exact tJ3_checkIndex_8e157_b9 C  hf _ _ _ hI (lv_sub hl [] rfl)
theorem cs_J3_checkIndex_8e157 : csF yJ3_checkIndex_8e157 cJ3_checkIndex_8e157 3 (some .int) 3 := ⟨q_t5_92, q_t1_19, q_t5_93, by decide +kernel⟩
def mJ0_checkIndex_df160 (x0 : Int32) (x1 : Int32) (M : Mem) : Option Unit := cap (mJ3_checkIndex_8e157 x0 x1 M) (fun r3 => some ())
set_option maxHeartbeats 4000000 in
set_option maxRecDepth 100000 in
theorem tJ0_checkIndex_df160 (l : Launch) {G : GT} {kd : Nat → Nat × Nat} {ad : Nat → Nat}  {x0 : Int32} {x1 : Int32} {M : Mem} {vo : Unit} (hf : mJ0_checkIndex_df160  x0 x1 M = some vo) (n : Nat) : Met l yJ0_checkIndex_df160 (Cond.code yJ0_checkIndex_df160 cJ0_checkIndex_df160 2 none :: WA) (rmO 1 0 0) (Pg G kd ad n [.int x0, .int x1] M) (Qg G kd ad n M none) 0 0 (AS kd ad n) := by
  refine g_body (own := RJ0) (by decide) rfl ?_ (Nat.le_of_ble_eq_true rfl)
  intro p e s m args below meth c C _ H locs ls hI hl
  obtain ⟨hx, hb, hml, hr, hown, hts, hlk, hK, hap, hsx⟩ := id C
  have hl : lv_has ls 2 [(0, .int x0), (1, .int x1)] := hl
  unfold mJ0_checkIndex_df160 at hf
  refine lv_iload_n hx hb (dc tbJ0_checkIndex_df160_k 0 rfl) rfl (lv_at hl 0 rfl) ?_
  refine lv_iload_n hx hb (dc tbJ0_checkIndex_df160_k 1 rfl) rfl (lv_at hl 1 rfl) ?_
  refine g_gsfm hx hb hown hts hsx hI q_t4_41 (dc tbJ0_checkIndex_df160_k 2 rfl) (fun fv1 hfv1 => ?_)
  obtain ⟨r3, q2, hf⟩ := cap_s hf
  refine g_callSi hx hb hml hown hts hK hap hsx hI (tJ3_checkIndex_8e157 l hfv1 q2 H.size) cs_J3_checkIndex_8e157 q_t5_91 rfl rfl ⟨Nat.le_of_ble_eq_true rfl, Nat.le_of_ble_eq_true rfl⟩ rfl hl.1 rfl (Nat.le_of_ble_eq_true rfl) (dc tbJ0_checkIndex_df160_k 3 rfl) ⟨Nat.le_of_ble_eq_true rfl, Nat.le_of_ble_eq_true rfl⟩ (fun H locs hI => ?_)
  refine lv_pop hx hb (dc tbJ0_checkIndex_df160_k 4 rfl) rfl ?_
  cases hf
  exact g_vret hx hb hr hlk hI (dc tbJ0_checkIndex_df160_k 5 rfl)
theorem cs_J0_checkIndex_df160 : csF yJ0_checkIndex_df160 cJ0_checkIndex_df160 2 none 2 := ⟨q_t5_89, q_t1_9, q_t5_90, by decide +kernel⟩
def mJ1_charAt_3b067 (k0 : Nat) (x1 : Int32) (M : Mem) : Option Int32 := cap (mJ0_checkIndex_df160 x1 (Int32.ofNat (stLen k0)) M) (fun r2 => chk (okb x1 (stLen k0)) (chk (isC (((((stB k0).getD (x1).toNatClampNeg 0) &&& (255 : Int32))).toUInt32 % 65536).toInt32) (some (((((stB k0).getD (x1).toNatClampNeg 0) &&& (255 : Int32))).toUInt32 % 65536).toInt32)))
set_option maxHeartbeats 4000000 in
set_option maxRecDepth 100000 in
theorem tJ1_charAt_3b067 (l : Launch) {G : GT} {kd : Nat → Nat × Nat} {ad : Nat → Nat} {k0 : Nat} (hk0 : k0 < 12) {x1 : Int32} {M : Mem} {vo : Int32} (hf : mJ1_charAt_3b067 k0 x1 M = some vo) (n : Nat) : Met l yJ1_charAt_3b067 (Cond.code yJ1_charAt_3b067 cJ1_charAt_3b067 2 (some .char) :: WA) (rmO 2 0 0) (Pg G kd ad n [.ref (G.2.2 (200 + k0)), .int x1] M) (Qg G kd ad n M (some (.int vo))) 0 0 (AS kd ad n) := by
  refine g_body (own := RJ1) (by decide) rfl ?_ (Nat.le_of_ble_eq_true rfl)
  intro p e s m args below meth c C _ H locs ls hI hl
  obtain ⟨hx, hb, hml, hr, hown, hts, hlk, hK, hap, hsx⟩ := id C
  have hl : lv_has ls 2 [(0, .ref (G.2.2 (200 + k0))), (1, .int x1)] := hl
  unfold mJ1_charAt_3b067 at hf
  refine lv_iload_n hx hb (dc tbJ1_charAt_3b067_k 0 rfl) rfl (lv_at hl 1 rfl) ?_
  refine lv_aload_n hx hb (dc tbJ1_charAt_3b067_k 1 rfl) rfl (lv_at hl 0 rfl) ?_
  refine g_svlen hx hb hsx hI hk0 (dc tbJ1_charAt_3b067_k 2 rfl) ?_
  obtain ⟨r2, q1, hf⟩ := cap_s hf
  refine g_callSv hx hb hml hown hts hK hap hsx hI (tJ0_checkIndex_df160 l  q1 H.size) cs_J0_checkIndex_df160 q_t5_161 rfl rfl ⟨Nat.le_of_ble_eq_true rfl, Nat.le_of_ble_eq_true rfl⟩ rfl hl.1 rfl (Nat.le_of_ble_eq_true rfl) (dc tbJ1_charAt_3b067_k 3 rfl) ⟨Nat.le_of_ble_eq_true rfl, Nat.le_of_ble_eq_true rfl⟩ (fun H locs hI => ?_)
  refine lv_aload_n hx hb (dc tbJ1_charAt_3b067_k 4 rfl) rfl (lv_at hl 0 rfl) ?_
  refine lv_iload_n hx hb (dc tbJ1_charAt_3b067_k 5 rfl) rfl (lv_at hl 1 rfl) ?_
  obtain ⟨h4, hf⟩ := chk_s hf
  refine g_svld hx hb hsx hI hk0 (okb_in h4) (dc tbJ1_charAt_3b067_k 6 rfl) ?_
  refine lv_sipush (v := 255) hx hb (dc tbJ1_charAt_3b067_k 7 rfl) sp_255 ?_
  refine lv_iand hx hb (dc tbJ1_charAt_3b067_k 8 rfl) ?_
  refine lv_i2c hx hb (dc tbJ1_charAt_3b067_k 9 rfl) rfl ?_
  obtain ⟨h5, hf⟩ := chk_s hf
  cases hf
  exact g_zret hx hb hr hlk hI (isC_n h5) (dc tbJ1_charAt_3b067_k 10 rfl)
theorem cs_J1_charAt_3b067 : csF yJ1_charAt_3b067 cJ1_charAt_3b067 2 (some .char) 2 := ⟨q_t5_159, q_t1_18, q_t5_160, by decide +kernel⟩
def mJ0_coder_7d493 (k0 : Nat) (M : Mem) : Option Int32 := ite2 ((1 : Int32) = 0) (some (1 : Int32)) (some (0 : Int32))
set_option maxHeartbeats 4000000 in
set_option maxRecDepth 100000 in
theorem tJ0_coder_7d493 (l : Launch) {G : GT} {kd : Nat → Nat × Nat} {ad : Nat → Nat} {k0 : Nat} (hk0 : k0 < 12) {M : Mem} {vo : Int32} (hf : mJ0_coder_7d493 k0 M = some vo) (n : Nat) : Met l yJ0_coder_7d493 (Cond.code yJ0_coder_7d493 cJ0_coder_7d493 1 (some .byte) :: WA) (rmO 0 0 0) (Pg G kd ad n [.ref (G.2.2 (100 + k0))] M) (Qg G kd ad n M (some (.int vo))) 0 0 (AS kd ad n) := by
  refine g_body (own := RJ0) (by decide) rfl ?_ (Nat.le_of_ble_eq_true rfl)
  intro p e s m args below meth c C _ H locs ls hI hl
  obtain ⟨hx, hb, hml, hr, hown, hts, hlk, hK, hap, hsx⟩ := id C
  have hl : lv_has ls 1 [(0, .ref (G.2.2 (100 + k0)))] := hl
  unfold mJ0_coder_7d493 at hf
  refine g_gscs hx hb hown hts hsx hI q_t4_63 (dc tbJ0_coder_7d493_k 0 rfl) ?_
  refine lv_if_eq (tgt := 13) hx hb (dc tbJ0_coder_7d493_k 1 rfl) rfl (fun c1 => ?_) (fun c1 => ?_)
  · have hf := ite_t c1 hf
    refine lv_iconst (v := 1) hx hb (dc tbJ0_coder_7d493_k 5 rfl) ic_1 ?_
    cases hf
    exact g_zret hx hb hr hlk hI rfl (dc tbJ0_coder_7d493_k 6 rfl)
  · have hf := ite_f c1 hf
    refine lv_aload_n hx hb (dc tbJ0_coder_7d493_k 2 rfl) rfl (lv_at hl 0 rfl) ?_
    refine g_scod hx hb hown hts hsx hI hk0 q_t5_7 (dc tbJ0_coder_7d493_k 3 rfl) ?_
    refine lv_goto (tgt := 14) hx hb (dc tbJ0_coder_7d493_k 4 rfl) rfl ?_
    cases hf
    exact g_zret hx hb hr hlk hI rfl (dc tbJ0_coder_7d493_k 6 rfl)
theorem cv_J0_coder_7d493 : cvF RJ0 yJ0_coder_7d493 cJ0_coder_7d493 1 (some .byte) 0 := ⟨q_t4_60, q_t4_61, q_t1_9, q_t4_62, by decide +kernel⟩
def mJ0_isLatin1_aae02 (k0 : Nat) (M : Mem) : Option Int32 := ite2 ((1 : Int32) = 0) (some (0 : Int32)) (ite2 ((0 : Int32) = 0) (some (1 : Int32)) (some (0 : Int32)))
set_option maxHeartbeats 4000000 in
set_option maxRecDepth 100000 in
theorem tJ0_isLatin1_aae02 (l : Launch) {G : GT} {kd : Nat → Nat × Nat} {ad : Nat → Nat} {k0 : Nat} (hk0 : k0 < 12) {M : Mem} {vo : Int32} (hf : mJ0_isLatin1_aae02 k0 M = some vo) (n : Nat) : Met l yJ0_isLatin1_aae02 (Cond.code yJ0_isLatin1_aae02 cJ0_isLatin1_aae02 1 (some .boolean) :: WA) (rmO 0 0 0) (Pg G kd ad n [.ref (G.2.2 (100 + k0))] M) (Qg G kd ad n M (some (.int vo))) 0 0 (AS kd ad n) := by
  refine g_body (own := RJ0) (by decide) rfl ?_ (Nat.le_of_ble_eq_true rfl)
  intro p e s m args below meth c C _ H locs ls hI hl
  obtain ⟨hx, hb, hml, hr, hown, hts, hlk, hK, hap, hsx⟩ := id C
  have hl : lv_has ls 1 [(0, .ref (G.2.2 (100 + k0)))] := hl
  unfold mJ0_isLatin1_aae02 at hf
  refine g_gscs hx hb hown hts hsx hI q_t4_63 (dc tbJ0_isLatin1_aae02_k 0 rfl) ?_
  refine lv_if_eq (tgt := 17) hx hb (dc tbJ0_isLatin1_aae02_k 1 rfl) rfl (fun c1 => ?_) (fun c1 => ?_)
  · have hf := ite_t c1 hf
    refine lv_iconst (v := 0) hx hb (dc tbJ0_isLatin1_aae02_k 7 rfl) ic_0 ?_
    cases hf
    exact g_zret hx hb hr hlk hI rfl (dc tbJ0_isLatin1_aae02_k 8 rfl)
  · have hf := ite_f c1 hf
    refine lv_aload_n hx hb (dc tbJ0_isLatin1_aae02_k 2 rfl) rfl (lv_at hl 0 rfl) ?_
    refine g_scod hx hb hown hts hsx hI hk0 q_t5_7 (dc tbJ0_isLatin1_aae02_k 3 rfl) ?_
    refine lv_if_ne (tgt := 17) hx hb (dc tbJ0_isLatin1_aae02_k 4 rfl) rfl (fun c2 => ?_) (fun c2 => ?_)
    · have hf := ite_f c2 hf
      refine lv_iconst (v := 0) hx hb (dc tbJ0_isLatin1_aae02_k 7 rfl) ic_0 ?_
      cases hf
      exact g_zret hx hb hr hlk hI rfl (dc tbJ0_isLatin1_aae02_k 8 rfl)
    · have hf := ite_t c2 hf
      refine lv_iconst (v := 1) hx hb (dc tbJ0_isLatin1_aae02_k 5 rfl) ic_1 ?_
      refine lv_goto (tgt := 18) hx hb (dc tbJ0_isLatin1_aae02_k 6 rfl) rfl ?_
      cases hf
      exact g_zret hx hb hr hlk hI rfl (dc tbJ0_isLatin1_aae02_k 8 rfl)
theorem cv_J0_isLatin1_aae02 : cvF RJ0 yJ0_isLatin1_aae02 cJ0_isLatin1_aae02 1 (some .boolean) 0 := ⟨q_t5_155, q_t5_156, q_t1_9, q_t5_157, by decide +kernel⟩
def mJ0_length_8abf5 (k0 : Nat) (M : Mem) : Option Int32 := cap (mJ0_coder_7d493 k0 M) (fun r2 => some ((Int32.ofNat (stLen k0)) >>> (r2 &&& 31)))
set_option maxHeartbeats 4000000 in
set_option maxRecDepth 100000 in
theorem tJ0_length_8abf5 (l : Launch) {G : GT} {kd : Nat → Nat × Nat} {ad : Nat → Nat} {k0 : Nat} (hk0 : k0 < 12) {M : Mem} {vo : Int32} (hf : mJ0_length_8abf5 k0 M = some vo) (n : Nat) : Met l yJ0_length_8abf5 (Cond.code yJ0_length_8abf5 cJ0_length_8abf5 1 (some .int) :: WA) (rmO 1 0 0) (Pg G kd ad n [.ref (G.2.2 (100 + k0))] M) (Qg G kd ad n M (some (.int vo))) 0 0 (AS kd ad n) := by
  refine g_body (own := RJ0) (by decide) rfl ?_ (Nat.le_of_ble_eq_true rfl)
  intro p e s m args below meth c C _ H locs ls hI hl
  obtain ⟨hx, hb, hml, hr, hown, hts, hlk, hK, hap, hsx⟩ := id C
  have hl : lv_has ls 1 [(0, .ref (G.2.2 (100 + k0)))] := hl
  unfold mJ0_length_8abf5 at hf
  refine lv_aload_n hx hb (dc tbJ0_length_8abf5_k 0 rfl) rfl (lv_at hl 0 rfl) ?_
  refine g_sval hx hb hown hts hsx hI hk0 q_t5_6 (dc tbJ0_length_8abf5_k 1 rfl) ?_
  refine g_svlen hx hb hsx hI hk0 (dc tbJ0_length_8abf5_k 2 rfl) ?_
  refine lv_aload_n hx hb (dc tbJ0_length_8abf5_k 3 rfl) rfl (lv_at hl 0 rfl) ?_
  obtain ⟨r2, q1, hf⟩ := cap_s hf
  refine g_callTi hx hb hml hown hts hK hap hsx hI (tJ0_coder_7d493 l hk0 q1 H.size) cv_J0_coder_7d493 q_t4_59 rfl rfl ⟨Nat.le_of_ble_eq_true rfl, Nat.le_of_ble_eq_true rfl⟩ hk0 rfl hl.1 rfl (Nat.le_of_ble_eq_true rfl) (dc tbJ0_length_8abf5_k 4 rfl) ⟨Nat.le_of_ble_eq_true rfl, Nat.le_of_ble_eq_true rfl⟩ (fun H locs hI => ?_)
  refine lv_ishr hx hb (dc tbJ0_length_8abf5_k 5 rfl) ?_
  cases hf
  exact g_iret hx hb hr hlk hI (dc tbJ0_length_8abf5_k 6 rfl)
theorem cv_J0_length_8abf5 : cvF RJ0 yJ0_length_8abf5 cJ0_length_8abf5 1 (some .int) 0 := ⟨q_t4_56, q_t4_57, q_t1_9, q_t4_58, by decide +kernel⟩
def mJ0_charAt_5068e (k0 : Nat) (x1 : Int32) (M : Mem) : Option Int32 := cap (mJ0_isLatin1_aae02 k0 M) (fun r2 => ite2 (r2 = 0) (none) (cap (mJ1_charAt_3b067 k0 x1 M) (fun r6 => chk (isC r6) (some r6))))
set_option maxHeartbeats 4000000 in
set_option maxRecDepth 100000 in
theorem tJ0_charAt_5068e (l : Launch) {G : GT} {kd : Nat → Nat × Nat} {ad : Nat → Nat} {k0 : Nat} (hk0 : k0 < 12) {x1 : Int32} {M : Mem} {vo : Int32} (hf : mJ0_charAt_5068e k0 x1 M = some vo) (n : Nat) : Met l yJ0_charAt_5068e (Cond.code yJ0_charAt_5068e cJ0_charAt_5068e 2 (some .char) :: WA) (rmO 3 0 0) (Pg G kd ad n [.ref (G.2.2 (100 + k0)), .int x1] M) (Qg G kd ad n M (some (.int vo))) 0 0 (AS kd ad n) := by
  refine g_body (own := RJ0) (by decide) rfl ?_ (Nat.le_of_ble_eq_true rfl)
  intro p e s m args below meth c C _ H locs ls hI hl
  obtain ⟨hx, hb, hml, hr, hown, hts, hlk, hK, hap, hsx⟩ := id C
  have hl : lv_has ls 2 [(0, .ref (G.2.2 (100 + k0))), (1, .int x1)] := hl
  unfold mJ0_charAt_5068e at hf
  refine lv_aload_n hx hb (dc tbJ0_charAt_5068e_k 0 rfl) rfl (lv_at hl 0 rfl) ?_
  obtain ⟨r2, q1, hf⟩ := cap_s hf
  refine g_callTi hx hb hml hown hts hK hap hsx hI (tJ0_isLatin1_aae02 l hk0 q1 H.size) cv_J0_isLatin1_aae02 q_t5_154 rfl rfl ⟨Nat.le_of_ble_eq_true rfl, Nat.le_of_ble_eq_true rfl⟩ hk0 rfl hl.1 rfl (Nat.le_of_ble_eq_true rfl) (dc tbJ0_charAt_5068e_k 1 rfl) ⟨Nat.le_of_ble_eq_true rfl, Nat.le_of_ble_eq_true rfl⟩ (fun H locs hI => ?_)
  refine lv_if_eq (tgt := 16) hx hb (dc tbJ0_charAt_5068e_k 2 rfl) rfl (fun c4 => ?_) (fun c4 => ?_)
  · have hf := ite_t c4 hf
    refine lv_aload_n hx hb (dc tbJ0_charAt_5068e_k 8 rfl) rfl (lv_at hl 0 rfl) ?_
    refine g_sval hx hb hown hts hsx hI hk0 q_t5_6 (dc tbJ0_charAt_5068e_k 9 rfl) ?_
    refine lv_iload_n hx hb (dc tbJ0_charAt_5068e_k 10 rfl) rfl (lv_at hl 1 rfl) ?_
    cases hf
  · have hf := ite_f c4 hf
    refine lv_aload_n hx hb (dc tbJ0_charAt_5068e_k 3 rfl) rfl (lv_at hl 0 rfl) ?_
    refine g_sval hx hb hown hts hsx hI hk0 q_t5_6 (dc tbJ0_charAt_5068e_k 4 rfl) ?_
    refine lv_iload_n hx hb (dc tbJ0_charAt_5068e_k 5 rfl) rfl (lv_at hl 1 rfl) ?_
    obtain ⟨r6, q5, hf⟩ := cap_s hf
    refine g_callSi hx hb hml hown hts hK hap hsx hI (tJ1_charAt_3b067 l hk0 q5 H.size) cs_J1_charAt_3b067 q_t5_158 rfl rfl ⟨Nat.le_of_ble_eq_true rfl, Nat.le_of_ble_eq_true rfl⟩ rfl hl.1 rfl (Nat.le_of_ble_eq_true rfl) (dc tbJ0_charAt_5068e_k 6 rfl) ⟨Nat.le_of_ble_eq_true rfl, Nat.le_of_ble_eq_true rfl⟩ (fun H locs hI => ?_)
    obtain ⟨h8, hf⟩ := chk_s hf
    cases hf
    exact g_zret hx hb hr hlk hI (isC_n h8) (dc tbJ0_charAt_5068e_k 7 rfl)
theorem cv_J0_charAt_5068e : cvF RJ0 yJ0_charAt_5068e cJ0_charAt_5068e 2 (some .char) 1 := ⟨q_t5_151, q_t5_152, q_t1_9, q_t5_153, by decide +kernel⟩
end
