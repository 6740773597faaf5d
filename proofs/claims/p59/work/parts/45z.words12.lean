theorem q_t2_196 : (Cond.fieldLink "SheetFolderLaw" 84 "SheetFolderLaw" "beam" "I") ∈ WA := wa_q tbl_2 196 rfl rfl
theorem q_t2_197 : (Cond.fieldLink "SheetFolderLaw" 87 "SheetFolderLaw" "wing" "I") ∈ WA := wa_q tbl_2 197 rfl rfl
