theorem q_t1_13 : (Cond.initialized "java/util/Arrays") ∈ WA := wa_q tbl_1 13 rfl rfl
theorem q_t2_52 : (Cond.fieldLink "java/lang/AbstractStringBuilder" 79 "java/lang/AbstractStringBuilder" "count" "I") ∈ WA := wa_q tbl_2 52 rfl rfl
theorem q_t2_61 : (Cond.superclass "java/lang/StringBuilder" "java/lang/AbstractStringBuilder") ∈ WA := wa_q tbl_2 61 rfl rfl
theorem q_t2_220 : (Cond.static ⟨"SheetFolderLaw", "load", "(LSheetFolder;Ljava/lang/String;)I"⟩) ∈ WA := wa_q tbl_2 220 rfl rfl
theorem q_t2_221 : (Cond.code ⟨"SheetFolderLaw", "load", "(LSheetFolder;Ljava/lang/String;)I"⟩ method_5_code 3 (some .int)) ∈ WA := wa_q tbl_2 221 rfl rfl
theorem q_t2_222 : (Cond.methodLink "SheetFolderLaw" 20 ⟨"java/lang/String", "length", "()I"⟩) ∈ WA := wa_q tbl_2 222 rfl rfl
theorem q_t2_231 : (Cond.methodLink "SheetFolderLaw" 29 ⟨"SheetFolderLaw", "four", "(Ljava/lang/String;I)I"⟩) ∈ WA := wa_q tbl_2 231 rfl rfl
theorem q_t2_232 : (Cond.static ⟨"SheetFolderLaw", "four", "(Ljava/lang/String;I)I"⟩) ∈ WA := wa_q tbl_2 232 rfl rfl
theorem q_t2_233 : (Cond.code ⟨"SheetFolderLaw", "four", "(Ljava/lang/String;I)I"⟩ method_4_code 4 (some .int)) ∈ WA := wa_q tbl_2 233 rfl rfl
theorem q_t2_234 : (Cond.methodLink "SheetFolderLaw" 25 ⟨"java/lang/String", "charAt", "(I)C"⟩) ∈ WA := wa_q tbl_2 234 rfl rfl
theorem q_t3_32 : (Cond.methodLink "SheetFolderLaw" 33 ⟨"SheetFolder", "feed", "(IIIII)I"⟩) ∈ WA := wa_q tbl_3 32 rfl rfl
theorem q_t3_40 : (Cond.methodLink "SheetFolderLaw" 39 ⟨"SheetFolder", "load", "(I)I"⟩) ∈ WA := wa_q tbl_3 40 rfl rfl
theorem q_t3_225 : (Cond.code ⟨"java/lang/AbstractStringBuilder", "newCapacity", "(I)I"⟩ prog_10_method_10_code 6 (some .int)) ∈ WA := wa_q tbl_3 225 rfl rfl
theorem q_t3_226 : (Cond.methodLink "java/lang/AbstractStringBuilder" 114 ⟨"jdk/internal/util/ArraysSupport", "newLength", "(III)I"⟩) ∈ WA := wa_q tbl_3 226 rfl rfl
theorem q_t3_236 : (Cond.constant "java/lang/AbstractStringBuilder" 39 2147483647) ∈ WA := wa_q tbl_3 236 rfl rfl
theorem q_t4_15 : (Cond.code ⟨"java/lang/AbstractStringBuilder", "isLatin1", "()Z"⟩ prog_10_method_68_code 1 (some .boolean)) ∈ WA := wa_q tbl_4 15 rfl rfl
theorem q_t4_35 : (Cond.code ⟨"java/lang/AbstractStringBuilder", "putStringAt", "(ILjava/lang/String;)V"⟩ prog_10_method_73_code 3 none) ∈ WA := wa_q tbl_4 35 rfl rfl
theorem q_t4_36 : (Cond.methodLink "java/lang/AbstractStringBuilder" 397 ⟨"java/lang/AbstractStringBuilder", "inflateIfNeededFor", "(Ljava/lang/String;)V"⟩) ∈ WA := wa_q tbl_4 36 rfl rfl
theorem q_t4_38 : (Cond.instanceMethod ⟨"java/lang/AbstractStringBuilder", "inflateIfNeededFor", "(Ljava/lang/String;)V"⟩) ∈ WA := wa_q tbl_4 38 rfl rfl
theorem q_t4_39 : (Cond.code ⟨"java/lang/AbstractStringBuilder", "inflateIfNeededFor", "(Ljava/lang/String;)V"⟩ prog_10_method_71_code 2 none) ∈ WA := wa_q tbl_4 39 rfl rfl
theorem q_t4_40 : (Cond.methodLink "java/lang/AbstractStringBuilder" 40 ⟨"java/lang/String", "coder", "()B"⟩) ∈ WA := wa_q tbl_4 40 rfl rfl
theorem q_t4_60 : (Cond.methodLink "java/lang/AbstractStringBuilder" 399 ⟨"java/lang/String", "getBytes", "([BIB)V"⟩) ∈ WA := wa_q tbl_4 60 rfl rfl
theorem q_t4_61 : (Cond.instanceMethod ⟨"java/lang/String", "getBytes", "([BIB)V"⟩) ∈ WA := wa_q tbl_4 61 rfl rfl
theorem q_t4_62 : (Cond.selects "java/lang/String" ⟨"java/lang/String", "getBytes", "([BIB)V"⟩ ⟨"java/lang/String", "getBytes", "([BIB)V"⟩) ∈ WA := wa_q tbl_4 62 rfl rfl
theorem q_t4_63 : (Cond.code ⟨"java/lang/String", "getBytes", "([BIB)V"⟩ prog_20_method_147_code 4 none) ∈ WA := wa_q tbl_4 63 rfl rfl
theorem q_t4_64 : (Cond.methodLink "java/lang/String" 212 ⟨"java/lang/System", "arraycopy", "(Ljava/lang/Object;ILjava/lang/Object;II)V"⟩) ∈ WA := wa_q tbl_4 64 rfl rfl
theorem q_t4_112 : (Cond.instanceMethod ⟨"java/lang/AbstractStringBuilder", "length", "()I"⟩) ∈ WA := wa_q tbl_4 112 rfl rfl
theorem q_t4_113 : (Cond.sameMethod "java/lang/AbstractStringBuilder" "java/lang/AbstractStringBuilder" "length" "()I") ∈ WA := wa_q tbl_4 113 rfl rfl
theorem q_t4_116 : (Cond.code ⟨"java/lang/StringBuilder", "length", "()I"⟩ prog_21_method_93_code 1 (some .int)) ∈ WA := wa_q tbl_4 116 rfl rfl
theorem q_t4_117 : (Cond.methodLink "java/lang/StringBuilder" 343 ⟨"java/lang/AbstractStringBuilder", "length", "()I"⟩) ∈ WA := wa_q tbl_4 117 rfl rfl
theorem q_t4_118 : (Cond.code ⟨"java/lang/AbstractStringBuilder", "length", "()I"⟩ prog_10_method_6_code 1 (some .int)) ∈ WA := wa_q tbl_4 118 rfl rfl
theorem q_t4_127 : (Cond.static ⟨"java/util/Arrays", "checkLength", "(II)V"⟩) ∈ WA := wa_q tbl_4 127 rfl rfl
theorem q_t4_128 : (Cond.code ⟨"java/util/Arrays", "checkLength", "(II)V"⟩ prog_26_method_131_code 2 none) ∈ WA := wa_q tbl_4 128 rfl rfl
theorem q_t5_118 : (Cond.sameMethod "java/lang/AbstractStringBuilder" "java/lang/AbstractStringBuilder" "inflateIfNeededFor" "(Ljava/lang/String;)V") ∈ WA := wa_q tbl_5 118 rfl rfl
theorem q_wk_5 : (Cond.selects "java/lang/StringBuilder" ⟨"java/lang/AbstractStringBuilder", "inflateIfNeededFor", "(Ljava/lang/String;)V"⟩ ⟨"java/lang/AbstractStringBuilder", "inflateIfNeededFor", "(Ljava/lang/String;)V"⟩) ∈ WA := wa_x 5 rfl
theorem bp_12 : (Int8.ofInt (12)).toInt32 = 12 := by decide
theorem bp_16 : (Int8.ofInt (16)).toInt32 = 16 := by decide
theorem ic_20 : Int32.ofInt (20) = 20 := by decide
