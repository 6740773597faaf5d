theorem flags_st (l : Launch) (h : l.flags = flags0) : l.stackTraces = false := by
  unfold Launch.stackTraces
  rw [h, Bool.not_eq_false', List.contains_iff_mem]
  unfold flags0
  exact List.mem_append_right _ List.mem_cons_self
