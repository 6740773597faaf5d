theorem q_s1_14 : (Cond.selects "SheetFolderLaw" ⟨"SheetFolderLaw", "isStep", "(LSheetFolder;II)Z"⟩ ⟨"SheetFolderLaw", "isStep", "(LSheetFolder;II)Z"⟩) ∈ WA := wa_q sel_1_k 14 rfl rfl
theorem q_s1_15 : (Cond.selects "SheetFolderLaw" ⟨"SheetFolderLaw", "sum", "(II)I"⟩ ⟨"SheetFolderLaw", "sum", "(II)I"⟩) ∈ WA := wa_q sel_1_k 15 rfl rfl
theorem q_s2_9 : (Cond.selects "SheetFolderLaw" ⟨"SheetFolderLaw", "isFinished", "(LSheetFolder;)Z"⟩ ⟨"SheetFolderLaw", "isFinished", "(LSheetFolder;)Z"⟩) ∈ WA := wa_q sel_2_k 9 rfl rfl
theorem q_t1_11 : (Cond.initialized "jdk/internal/util/ArraysSupport") ∈ WA := wa_q tbl_1 11 rfl rfl
theorem q_t1_17 : (Cond.initialized "java/lang/Integer") ∈ WA := wa_q tbl_1 17 rfl rfl
theorem q_t2_193 : (Cond.fieldLink "SheetFolderLaw" 58 "SheetFolderLaw" "bends" "I") ∈ WA := wa_q tbl_2 193 rfl rfl
theorem q_t2_198 : (Cond.fieldLink "SheetFolderLaw" 90 "SheetFolderLaw" "flange" "I") ∈ WA := wa_q tbl_2 198 rfl rfl
theorem q_t2_199 : (Cond.fieldLink "SheetFolderLaw" 93 "SheetFolderLaw" "most" "I") ∈ WA := wa_q tbl_2 199 rfl rfl
theorem q_t3_199 : (Cond.static ⟨"SheetFolderLaw", "among", "(II)I"⟩) ∈ WA := wa_q tbl_3 199 rfl rfl
theorem q_t3_200 : (Cond.code ⟨"SheetFolderLaw", "among", "(II)I"⟩ method_2_code 3 (some .int)) ∈ WA := wa_q tbl_3 200 rfl rfl
theorem q_t3_227 : (Cond.static ⟨"jdk/internal/util/ArraysSupport", "newLength", "(III)I"⟩) ∈ WA := wa_q tbl_3 227 rfl rfl
theorem q_t3_228 : (Cond.code ⟨"jdk/internal/util/ArraysSupport", "newLength", "(III)I"⟩ prog_27_method_27_code 4 (some .int)) ∈ WA := wa_q tbl_3 228 rfl rfl
theorem q_t3_229 : (Cond.methodLink "jdk/internal/util/ArraysSupport" 194 ⟨"java/lang/Math", "max", "(II)I"⟩) ∈ WA := wa_q tbl_3 229 rfl rfl
theorem q_t3_232 : (Cond.constant "jdk/internal/util/ArraysSupport" 200 2147483639) ∈ WA := wa_q tbl_3 232 rfl rfl
theorem q_t4_75 : (Cond.static ⟨"java/lang/Integer", "stringSize", "(I)I"⟩) ∈ WA := wa_q tbl_4 75 rfl rfl
theorem q_t4_76 : (Cond.code ⟨"java/lang/Integer", "stringSize", "(I)I"⟩ prog_17_method_13_code 4 (some .int)) ∈ WA := wa_q tbl_4 76 rfl rfl
theorem q_t4_78 : (Cond.static ⟨"java/lang/Integer", "getChars", "(II[B)I"⟩) ∈ WA := wa_q tbl_4 78 rfl rfl
theorem q_t4_79 : (Cond.code ⟨"java/lang/Integer", "getChars", "(II[B)I"⟩ prog_17_method_12_code 7 (some .int)) ∈ WA := wa_q tbl_4 79 rfl rfl
theorem q_t4_80 : (Cond.fieldLink "java/lang/Integer" 83 "java/lang/Integer" "DigitOnes" "[B") ∈ WA := wa_q tbl_4 80 rfl rfl
theorem q_t4_82 : (Cond.fieldLink "java/lang/Integer" 87 "java/lang/Integer" "DigitTens" "[B") ∈ WA := wa_q tbl_4 82 rfl rfl
theorem q_t4_162 : (Cond.instanceMethod ⟨"SheetFolderLaw", "isStep", "(LSheetFolder;II)Z"⟩) ∈ WA := wa_q tbl_4 162 rfl rfl
theorem q_t4_163 : (Cond.code ⟨"SheetFolderLaw", "isStep", "(LSheetFolder;II)Z"⟩ method_10_code 12 (some .boolean)) ∈ WA := wa_q tbl_4 163 rfl rfl
theorem q_t4_164 : (Cond.methodLink "SheetFolderLaw" 143 ⟨"SheetFolderLaw", "sum", "(II)I"⟩) ∈ WA := wa_q tbl_4 164 rfl rfl
theorem q_t4_166 : (Cond.instanceMethod ⟨"SheetFolderLaw", "sum", "(II)I"⟩) ∈ WA := wa_q tbl_4 166 rfl rfl
theorem q_t4_167 : (Cond.code ⟨"SheetFolderLaw", "sum", "(II)I"⟩ method_9_code 5 (some .int)) ∈ WA := wa_q tbl_4 167 rfl rfl
theorem q_t4_168 : (Cond.methodLink "SheetFolderLaw" 146 ⟨"SheetFolder", "gauge", "(II)I"⟩) ∈ WA := wa_q tbl_4 168 rfl rfl
theorem q_t4_203 : (Cond.methodLink "SheetFolderLaw" 149 ⟨"SheetFolder", "top", "(II)I"⟩) ∈ WA := wa_q tbl_4 203 rfl rfl
theorem q_t4_211 : (Cond.methodLink "SheetFolderLaw" 152 ⟨"SheetFolder", "hitting", "(II)I"⟩) ∈ WA := wa_q tbl_4 211 rfl rfl
theorem q_t4_223 : (Cond.methodLink "SheetFolderLaw" 155 ⟨"SheetFolder", "reason", "(II)I"⟩) ∈ WA := wa_q tbl_4 223 rfl rfl
theorem q_t5_6 : (Cond.methodLink "SheetFolderLaw" 158 ⟨"SheetFolder", "costOf", "(II)I"⟩) ∈ WA := wa_q tbl_5 6 rfl rfl
theorem q_t5_27 : (Cond.methodLink "SheetFolderLaw" 161 ⟨"SheetFolder", "corner", "(IIII)I"⟩) ∈ WA := wa_q tbl_5 27 rfl rfl
theorem q_t5_36 : (Cond.methodLink "SheetFolderLaw" 165 ⟨"SheetFolder", "possible", "()I"⟩) ∈ WA := wa_q tbl_5 36 rfl rfl
theorem q_t5_48 : (Cond.instanceMethod ⟨"SheetFolderLaw", "isFinished", "(LSheetFolder;)Z"⟩) ∈ WA := wa_q tbl_5 48 rfl rfl
theorem q_t5_49 : (Cond.code ⟨"SheetFolderLaw", "isFinished", "(LSheetFolder;)Z"⟩ method_11_code 8 (some .boolean)) ∈ WA := wa_q tbl_5 49 rfl rfl
theorem q_t5_50 : (Cond.methodLink "SheetFolderLaw" 168 ⟨"SheetFolder", "finishedCorner", "(II)I"⟩) ∈ WA := wa_q tbl_5 50 rfl rfl
theorem q_t5_64 : (Cond.static ⟨"SheetFolderLaw", "isNoBend", "(LSheetFolder;I)Z"⟩) ∈ WA := wa_q tbl_5 64 rfl rfl
theorem q_t5_65 : (Cond.codeWith ⟨"SheetFolderLaw", "isNoBend", "(LSheetFolder;I)Z"⟩ method_12_code 3 (some .boolean) [(0, 16, 17, 171), (0, 16, 20, 173)]) ∈ WA := wa_q tbl_5 65 rfl rfl
theorem q_t5_66 : (Cond.classLink "SheetFolderLaw" 171 "java/lang/IndexOutOfBoundsException") ∈ WA := wa_q tbl_5 66 rfl rfl
theorem q_t5_67 : (Cond.classLink "SheetFolderLaw" 173 "java/lang/IllegalArgumentException") ∈ WA := wa_q tbl_5 67 rfl rfl
theorem q_t5_69 : (Cond.static ⟨"SheetFolderLaw", "isNoSide", "(LSheetFolder;)Z"⟩) ∈ WA := wa_q tbl_5 69 rfl rfl
theorem q_t5_70 : (Cond.codeWith ⟨"SheetFolderLaw", "isNoSide", "(LSheetFolder;)Z"⟩ method_13_code 2 (some .boolean) [(0, 16, 17, 173)]) ∈ WA := wa_q tbl_5 70 rfl rfl
theorem q_t5_72 : (Cond.static ⟨"SheetFolderLaw", "isNoStep", "(LSheetFolder;LSheetFolderLaw;)Z"⟩) ∈ WA := wa_q tbl_5 72 rfl rfl
theorem q_t5_73 : (Cond.codeWith ⟨"SheetFolderLaw", "isNoStep", "(LSheetFolder;LSheetFolderLaw;)Z"⟩ method_14_code 4 (some .boolean) [(32, 50, 51, 178)]) ∈ WA := wa_q tbl_5 73 rfl rfl
theorem q_t5_74 : (Cond.classLink "SheetFolderLaw" 178 "java/lang/IllegalStateException") ∈ WA := wa_q tbl_5 74 rfl rfl
theorem q_t5_75 : (Cond.methodLink "SheetFolderLaw" 175 ⟨"SheetFolder", "fold", "(II)I"⟩) ∈ WA := wa_q tbl_5 75 rfl rfl
theorem bp_m10 : (Int8.ofInt (-10)).toInt32 = -10 := by decide
theorem bp_m100 : (Int8.ofInt (-100)).toInt32 = -100 := by decide
theorem bp_m7 : (Int8.ofInt (-7)).toInt32 = -7 := by decide
theorem bp_m9 : (Int8.ofInt (-9)).toInt32 = -9 := by decide
theorem bp_100 : (Int8.ofInt (100)).toInt32 = 100 := by decide
theorem bp_45 : (Int8.ofInt (45)).toInt32 = 45 := by decide
