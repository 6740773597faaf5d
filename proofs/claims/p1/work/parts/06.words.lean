/-! the tables' words -/
def WA : List Cond := lw_tbl.filter goodWord
theorem wa_good : ∀ w ∈ WA, (w.onTables && w.keeps) = true ∨ ∃ ty, w = .arrayClass ty := fun _ h => good_of_word (List.mem_filter.mp h).2
theorem wa_in : GoodIn lw_tbl WA := fun w h => ⟨(List.mem_filter.mp h).1, wa_good w h⟩
theorem wa_q {t : List Cond} (h : ∀ w ∈ t, w ∈ lw_tbl) (i : Nat) {w : Cond} (hi : t[i]? = some w) (hg : goodWord w = true) : w ∈ WA := List.mem_filter.mpr ⟨h w (List.mem_of_getElem? hi), hg⟩
theorem wa_t {t : List Cond} (h : ∀ w ∈ t, w ∈ lw_tbl) (i : Nat) {w : Cond} (hi : t[i]? = some w) : w ∈ lw_tbl := h w (List.mem_of_getElem? hi)
theorem wa_f {ws : List Cond} (h : ∀ w ∈ ws, w ∈ WA) (l : List Cond) (hl : l = ws) : ∀ w ∈ l, w ∈ WA := hl ▸ h
theorem tbl_1 : ∀ w ∈ tables_1_1, w ∈ lw_tbl := fun w h => List.mem_append_right _ (List.mem_append_left _ h)
theorem tbl_2 : ∀ w ∈ tables_1_2, w ∈ lw_tbl := fun w h => List.mem_append_right _ (List.mem_append_right _ (List.mem_append_left _ h))
theorem tbl_3 : ∀ w ∈ tables_1_3, w ∈ lw_tbl := fun w h => List.mem_append_right _ (List.mem_append_right _ (List.mem_append_right _ (List.mem_append_left _ h)))
theorem tbl_4 : ∀ w ∈ tables_1_4, w ∈ lw_tbl := fun w h => List.mem_append_right _ (List.mem_append_right _ (List.mem_append_right _ (List.mem_append_right _ (List.mem_append_left _ h))))
theorem tbl_5 : ∀ w ∈ tables_1_5, w ∈ lw_tbl := fun w h => List.mem_append_right _ (List.mem_append_right _ (List.mem_append_right _ (List.mem_append_right _ (List.mem_append_right _ (List.mem_append_left _ h)))))
theorem tbl_6 : ∀ w ∈ tables_1_6, w ∈ lw_tbl := fun w h => List.mem_append_right _ (List.mem_append_right _ (List.mem_append_right _ (List.mem_append_right _ (List.mem_append_right _ (List.mem_append_right _ (List.mem_append_left _ h))))))
theorem tbl_7 : ∀ w ∈ tables_1_7, w ∈ lw_tbl := fun w h => List.mem_append_right _ (List.mem_append_right _ (List.mem_append_right _ (List.mem_append_right _ (List.mem_append_right _ (List.mem_append_right _ (List.mem_append_right _ (List.mem_append_left _ h)))))))
theorem tbl_8 : ∀ w ∈ tables_1_8, w ∈ lw_tbl := fun w h => List.mem_append_right _ (List.mem_append_right _ (List.mem_append_right _ (List.mem_append_right _ (List.mem_append_right _ (List.mem_append_right _ (List.mem_append_right _ (List.mem_append_right _ (List.mem_append_left _ h))))))))
theorem tbl_9 : ∀ w ∈ tables_1_9, w ∈ lw_tbl := fun w h => List.mem_append_right _ (List.mem_append_right _ (List.mem_append_right _ (List.mem_append_right _ (List.mem_append_right _ (List.mem_append_right _ (List.mem_append_right _ (List.mem_append_right _ (List.mem_append_right _ (List.mem_append_left _ h)))))))))
theorem tbl_10 : ∀ w ∈ tables_1_10, w ∈ lw_tbl := fun w h => List.mem_append_right _ (List.mem_append_right _ (List.mem_append_right _ (List.mem_append_right _ (List.mem_append_right _ (List.mem_append_right _ (List.mem_append_right _ (List.mem_append_right _ (List.mem_append_right _ (List.mem_append_right _ (h))))))))))
abbrev sel_1 : List Cond := k2_sels lw_privs_1
theorem sel_1_k : ∀ w ∈ sel_1, w ∈ lw_tbl := fun w h => List.mem_append_left _ (by obtain ⟨q, hq, rfl⟩ := List.mem_map.mp h; exact List.mem_map.mpr ⟨q, (fun h => List.mem_append_left _ h) hq, rfl⟩)
abbrev sel_2 : List Cond := k2_sels lw_privs_2
theorem sel_2_k : ∀ w ∈ sel_2, w ∈ lw_tbl := fun w h => List.mem_append_left _ (by obtain ⟨q, hq, rfl⟩ := List.mem_map.mp h; exact List.mem_map.mpr ⟨q, (fun h => List.mem_append_right _ (List.mem_append_left _ h)) hq, rfl⟩)
abbrev sel_3 : List Cond := k2_sels lw_privs_3
theorem sel_3_k : ∀ w ∈ sel_3, w ∈ lw_tbl := fun w h => List.mem_append_left _ (by obtain ⟨q, hq, rfl⟩ := List.mem_map.mp h; exact List.mem_map.mpr ⟨q, (fun h => List.mem_append_right _ (List.mem_append_right _ (List.mem_append_left _ h))) hq, rfl⟩)
abbrev sel_4 : List Cond := k2_sels lw_privs_4
theorem sel_4_k : ∀ w ∈ sel_4, w ∈ lw_tbl := fun w h => List.mem_append_left _ (by obtain ⟨q, hq, rfl⟩ := List.mem_map.mp h; exact List.mem_map.mpr ⟨q, (fun h => List.mem_append_right _ (List.mem_append_right _ (List.mem_append_right _ (List.mem_append_left _ h)))) hq, rfl⟩)
abbrev sel_5 : List Cond := k2_sels lw_privs_5
theorem sel_5_k : ∀ w ∈ sel_5, w ∈ lw_tbl := fun w h => List.mem_append_left _ (by obtain ⟨q, hq, rfl⟩ := List.mem_map.mp h; exact List.mem_map.mpr ⟨q, (fun h => List.mem_append_right _ (List.mem_append_right _ (List.mem_append_right _ (List.mem_append_right _ (List.mem_append_left _ h))))) hq, rfl⟩)
abbrev sel_6 : List Cond := k2_sels lw_privs_6
theorem sel_6_k : ∀ w ∈ sel_6, w ∈ lw_tbl := fun w h => List.mem_append_left _ (by obtain ⟨q, hq, rfl⟩ := List.mem_map.mp h; exact List.mem_map.mpr ⟨q, (fun h => List.mem_append_right _ (List.mem_append_right _ (List.mem_append_right _ (List.mem_append_right _ (List.mem_append_right _ (List.mem_append_left _ h)))))) hq, rfl⟩)
abbrev sel_7 : List Cond := k2_sels lw_privs_7
theorem sel_7_k : ∀ w ∈ sel_7, w ∈ lw_tbl := fun w h => List.mem_append_left _ (by obtain ⟨q, hq, rfl⟩ := List.mem_map.mp h; exact List.mem_map.mpr ⟨q, (fun h => List.mem_append_right _ (List.mem_append_right _ (List.mem_append_right _ (List.mem_append_right _ (List.mem_append_right _ (List.mem_append_right _ (h))))))) hq, rfl⟩)
