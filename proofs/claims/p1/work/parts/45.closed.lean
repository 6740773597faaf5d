/-! cases that look at nothing but the memory -/
theorem ex_s {x : Option (Mem × Mem)} (h : x.isSome = true) : ∃ M' N', x = some (M', N') := by
  cases x with
  | none => cases h
  | some q => exact ⟨q.1, q.2, rfl⟩
theorem ck_2 : (mlc_2 0 0 0 0 0 MZ MZ).isSome = true := by decide +kernel
theorem cz_2 (a1 a2 a3 a4 a5 : Int32) : ∃ M' N', mlc_2 a1 a2 a3 a4 a5 MZ MZ = some (M', N') := by
  have h := ck_2
  unfold mlc_2 at h ⊢
  exact ex_s h
theorem ck_3 : (mlc_3 0 0 0 0 0 MZ MZ).isSome = true := by decide +kernel
theorem cz_3 (a1 a2 a3 a4 a5 : Int32) : ∃ M' N', mlc_3 a1 a2 a3 a4 a5 MZ MZ = some (M', N') := by
  have h := ck_3
  unfold mlc_3 at h ⊢
  exact ex_s h
theorem ck_4 : (mlc_4 0 0 0 0 0 MZ MZ).isSome = true := by decide +kernel
theorem cz_4 (a1 a2 a3 a4 a5 : Int32) : ∃ M' N', mlc_4 a1 a2 a3 a4 a5 MZ MZ = some (M', N') := by
  have h := ck_4
  unfold mlc_4 at h ⊢
  exact ex_s h
theorem ck_5 : (mlc_5 0 0 0 0 0 MZ MZ).isSome = true := by decide +kernel
theorem cz_5 (a1 a2 a3 a4 a5 : Int32) : ∃ M' N', mlc_5 a1 a2 a3 a4 a5 MZ MZ = some (M', N') := by
  have h := ck_5
  unfold mlc_5 at h ⊢
  exact ex_s h
theorem ck_8 : (mlc_8 0 0 0 0 0 MZ MZ).isSome = true := by decide +kernel
theorem cz_8 (a1 a2 a3 a4 a5 : Int32) : ∃ M' N', mlc_8 a1 a2 a3 a4 a5 MZ MZ = some (M', N') := by
  have h := ck_8
  unfold mlc_8 at h ⊢
  exact ex_s h
theorem ck_9 : (mlc_9 0 0 0 0 0 MZ MZ).isSome = true := by decide +kernel
theorem cz_9 (a1 a2 a3 a4 a5 : Int32) : ∃ M' N', mlc_9 a1 a2 a3 a4 a5 MZ MZ = some (M', N') := by
  have h := ck_9
  unfold mlc_9 at h ⊢
  exact ex_s h
theorem ck_11 : (mlc_11 0 0 0 0 0 MZ MZ).isSome = true := by decide +kernel
theorem cz_11 (a1 a2 a3 a4 a5 : Int32) : ∃ M' N', mlc_11 a1 a2 a3 a4 a5 MZ MZ = some (M', N') := by
  have h := ck_11
  unfold mlc_11 at h ⊢
  exact ex_s h
theorem ck_12 : (mlc_12 0 0 0 0 0 MZ MZ).isSome = true := by decide +kernel
theorem cz_12 (a1 a2 a3 a4 a5 : Int32) : ∃ M' N', mlc_12 a1 a2 a3 a4 a5 MZ MZ = some (M', N') := by
  have h := ck_12
  unfold mlc_12 at h ⊢
  exact ex_s h
theorem ck_14 : (mlc_14 0 0 0 0 0 MZ MZ).isSome = true := by decide +kernel
theorem cz_14 (a1 a2 a3 a4 a5 : Int32) : ∃ M' N', mlc_14 a1 a2 a3 a4 a5 MZ MZ = some (M', N') := by
  have h := ck_14
  unfold mlc_14 at h ⊢
  exact ex_s h
theorem ck_16 : (mlc_16 0 0 0 0 0 MZ MZ).isSome = true := by decide +kernel
theorem cz_16 (a1 a2 a3 a4 a5 : Int32) : ∃ M' N', mlc_16 a1 a2 a3 a4 a5 MZ MZ = some (M', N') := by
  have h := ck_16
  unfold mlc_16 at h ⊢
  exact ex_s h
theorem ck_17 : (mlc_17 0 0 0 0 0 MZ MZ).isSome = true := by decide +kernel
theorem cz_17 (a1 a2 a3 a4 a5 : Int32) : ∃ M' N', mlc_17 a1 a2 a3 a4 a5 MZ MZ = some (M', N') := by
  have h := ck_17
  unfold mlc_17 at h ⊢
  exact ex_s h
theorem ck_18 : (mlc_18 0 0 0 0 0 MZ MZ).isSome = true := by decide +kernel
theorem cz_18 (a1 a2 a3 a4 a5 : Int32) : ∃ M' N', mlc_18 a1 a2 a3 a4 a5 MZ MZ = some (M', N') := by
  have h := ck_18
  unfold mlc_18 at h ⊢
  exact ex_s h
theorem ck_20 : (mlc_20 0 0 0 0 0 MZ MZ).isSome = true := by decide +kernel
theorem cz_20 (a1 a2 a3 a4 a5 : Int32) : ∃ M' N', mlc_20 a1 a2 a3 a4 a5 MZ MZ = some (M', N') := by
  have h := ck_20
  unfold mlc_20 at h ⊢
  exact ex_s h
theorem ck_21 : (mlc_21 0 0 0 0 0 MZ MZ).isSome = true := by decide +kernel
theorem cz_21 (a1 a2 a3 a4 a5 : Int32) : ∃ M' N', mlc_21 a1 a2 a3 a4 a5 MZ MZ = some (M', N') := by
  have h := ck_21
  unfold mlc_21 at h ⊢
  exact ex_s h
theorem ck_22 : (mlc_22 0 0 0 0 0 MZ MZ).isSome = true := by decide +kernel
theorem cz_22 (a1 a2 a3 a4 a5 : Int32) : ∃ M' N', mlc_22 a1 a2 a3 a4 a5 MZ MZ = some (M', N') := by
  have h := ck_22
  unfold mlc_22 at h ⊢
  exact ex_s h
theorem ck_23 : (mlc_23 0 0 0 0 0 MZ MZ).isSome = true := by decide +kernel
theorem cz_23 (a1 a2 a3 a4 a5 : Int32) : ∃ M' N', mlc_23 a1 a2 a3 a4 a5 MZ MZ = some (M', N') := by
  have h := ck_23
  unfold mlc_23 at h ⊢
  exact ex_s h
theorem ck_25 : (mlc_25 0 0 0 0 0 MZ MZ).isSome = true := by decide +kernel
theorem cz_25 (a1 a2 a3 a4 a5 : Int32) : ∃ M' N', mlc_25 a1 a2 a3 a4 a5 MZ MZ = some (M', N') := by
  have h := ck_25
  unfold mlc_25 at h ⊢
  exact ex_s h
theorem ck_32 : (mlc_32 0 0 0 0 0 MZ MZ).isSome = true := by decide +kernel
theorem cz_32 (a1 a2 a3 a4 a5 : Int32) : ∃ M' N', mlc_32 a1 a2 a3 a4 a5 MZ MZ = some (M', N') := by
  have h := ck_32
  unfold mlc_32 at h ⊢
  exact ex_s h
theorem ck_33 : (mlc_33 0 0 0 0 0 MZ MZ).isSome = true := by decide +kernel
theorem cz_33 (a1 a2 a3 a4 a5 : Int32) : ∃ M' N', mlc_33 a1 a2 a3 a4 a5 MZ MZ = some (M', N') := by
  have h := ck_33
  unfold mlc_33 at h ⊢
  exact ex_s h
theorem ck_35 : (mlc_35 0 0 0 0 0 MZ MZ).isSome = true := by decide +kernel
theorem cz_35 (a1 a2 a3 a4 a5 : Int32) : ∃ M' N', mlc_35 a1 a2 a3 a4 a5 MZ MZ = some (M', N') := by
  have h := ck_35
  unfold mlc_35 at h ⊢
  exact ex_s h
theorem ck_36 : (mlc_36 0 0 0 0 0 MZ MZ).isSome = true := by decide +kernel
theorem cz_36 (a1 a2 a3 a4 a5 : Int32) : ∃ M' N', mlc_36 a1 a2 a3 a4 a5 MZ MZ = some (M', N') := by
  have h := ck_36
  unfold mlc_36 at h ⊢
  exact ex_s h
theorem ck_37 : (mlc_37 0 0 0 0 0 MZ MZ).isSome = true := by decide +kernel
theorem cz_37 (a1 a2 a3 a4 a5 : Int32) : ∃ M' N', mlc_37 a1 a2 a3 a4 a5 MZ MZ = some (M', N') := by
  have h := ck_37
  unfold mlc_37 at h ⊢
  exact ex_s h
theorem ck_39 : (mlc_39 0 0 0 0 0 MZ MZ).isSome = true := by decide +kernel
theorem cz_39 (a1 a2 a3 a4 a5 : Int32) : ∃ M' N', mlc_39 a1 a2 a3 a4 a5 MZ MZ = some (M', N') := by
  have h := ck_39
  unfold mlc_39 at h ⊢
  exact ex_s h
theorem ck_41 : (mlc_41 0 0 0 0 0 MZ MZ).isSome = true := by decide +kernel
theorem cz_41 (a1 a2 a3 a4 a5 : Int32) : ∃ M' N', mlc_41 a1 a2 a3 a4 a5 MZ MZ = some (M', N') := by
  have h := ck_41
  unfold mlc_41 at h ⊢
  exact ex_s h
theorem ck_42 : (mlc_42 0 0 0 0 0 MZ MZ).isSome = true := by decide +kernel
theorem cz_42 (a1 a2 a3 a4 a5 : Int32) : ∃ M' N', mlc_42 a1 a2 a3 a4 a5 MZ MZ = some (M', N') := by
  have h := ck_42
  unfold mlc_42 at h ⊢
  exact ex_s h
theorem ck_43 : (mlc_43 0 0 0 0 0 MZ MZ).isSome = true := by decide +kernel
theorem cz_43 (a1 a2 a3 a4 a5 : Int32) : ∃ M' N', mlc_43 a1 a2 a3 a4 a5 MZ MZ = some (M', N') := by
  have h := ck_43
  unfold mlc_43 at h ⊢
  exact ex_s h
theorem ck_46 : (mlc_46 0 0 0 0 0 MZ MZ).isSome = true := by decide +kernel
theorem cz_46 (a1 a2 a3 a4 a5 : Int32) : ∃ M' N', mlc_46 a1 a2 a3 a4 a5 MZ MZ = some (M', N') := by
  have h := ck_46
  unfold mlc_46 at h ⊢
  exact ex_s h
theorem ck_47 : (mlc_47 0 0 0 0 0 MZ MZ).isSome = true := by decide +kernel
theorem cz_47 (a1 a2 a3 a4 a5 : Int32) : ∃ M' N', mlc_47 a1 a2 a3 a4 a5 MZ MZ = some (M', N') := by
  have h := ck_47
  unfold mlc_47 at h ⊢
  exact ex_s h
theorem ck_53 : (mlc_53 0 0 0 0 0 MZ MZ).isSome = true := by decide +kernel
theorem cz_53 (a1 a2 a3 a4 a5 : Int32) : ∃ M' N', mlc_53 a1 a2 a3 a4 a5 MZ MZ = some (M', N') := by
  have h := ck_53
  unfold mlc_53 at h ⊢
  exact ex_s h
theorem ck_54 : (mlc_54 0 0 0 0 0 MZ MZ).isSome = true := by decide +kernel
theorem cz_54 (a1 a2 a3 a4 a5 : Int32) : ∃ M' N', mlc_54 a1 a2 a3 a4 a5 MZ MZ = some (M', N') := by
  have h := ck_54
  unfold mlc_54 at h ⊢
  exact ex_s h
