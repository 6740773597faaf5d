theorem q_s1_12 : (Cond.selects "SheetFolderLaw" ⟨"SheetFolderLaw", "chosen", "(I)I"⟩ ⟨"SheetFolderLaw", "chosen", "(I)I"⟩) ∈ WA := wa_q sel_1_k 12 rfl rfl
theorem q_t2_192 : (Cond.fieldLink "SheetFolderLaw" 43 "SheetFolderLaw" "at" "I") ∈ WA := wa_q tbl_2 192 rfl rfl
theorem q_t3_193 : (Cond.instanceMethod ⟨"SheetFolderLaw", "chosen", "(I)I"⟩) ∈ WA := wa_q tbl_3 193 rfl rfl
theorem q_t3_194 : (Cond.code ⟨"SheetFolderLaw", "chosen", "(I)I"⟩ method_6_code 3 (some .int)) ∈ WA := wa_q tbl_3 194 rfl rfl
theorem q_t3_195 : (Cond.methodLink "SheetFolderLaw" 47 ⟨"SheetFolderLaw", "cell", "([II)I"⟩) ∈ WA := wa_q tbl_3 195 rfl rfl
theorem q_t3_196 : (Cond.static ⟨"SheetFolderLaw", "cell", "([II)I"⟩) ∈ WA := wa_q tbl_3 196 rfl rfl
theorem q_t3_197 : (Cond.code ⟨"SheetFolderLaw", "cell", "([II)I"⟩ method_3_code 2 (some .int)) ∈ WA := wa_q tbl_3 197 rfl rfl
theorem q_t3_198 : (Cond.methodLink "SheetFolderLaw" 51 ⟨"SheetFolderLaw", "among", "(II)I"⟩) ∈ WA := wa_q tbl_3 198 rfl rfl
