/-! at the begin both hold the same -/
theorem mz_127 : ∀ j, j < 256 → rd MZ (110 + 17) j = -1 := by decide +kernel
theorem mz_x : rd MZ 119 0 = 0 ∧ rd MZ 110 6 = 0 ∧ rd MZ 21 2 = 0 ∧ rd MZ 21 1 = 0 ∧ rd MZ 136 1 = 0 ∧ rd MZ 136 0 = 0 ∧ rd MZ 136 19 = 0 ∧ rd MZ 136 53 = 0 ∧ rd MZ 135 4 = 0 := by decide +kernel
theorem mz_tl : ∀ j, j < 10 → rd MZ (5 + 2) j = rd MZ 136 (39 + j) := by decide +kernel
theorem mz_y : rd MZ 5 0 = rd MZ 136 1 ∧ (rd MZ 5 3 = rd MZ 136 36 ∧ rd MZ 5 4 = rd MZ 136 37 ∧ rd MZ 5 5 = rd MZ 136 38) ∧ rd MZ 136 48 = 0 ∧ (rd MZ 5 7 = rd MZ 136 49 ∧ rd MZ 5 8 = rd MZ 136 50 ∧ rd MZ 5 9 = rd MZ 136 51) ∧ rd MZ 5 10 = rd MZ 136 19 ∧ rd MZ 5 13 = rd MZ 136 52 ∧ rd MZ 5 14 = rd MZ 136 53 ∧ rd MZ 5 2 = 0 := by decide +kernel
theorem pr_MZ : PR 5 MZ (row 136 MZ) := by
  obtain ⟨_, _, _, _, x1, x0, x19, x53, _⟩ := mz_x
  obtain ⟨y0, y3, y48, y7, y10, y13, y14, y2⟩ := mz_y
  have n0 : ((0 : Int32)).toInt = 0 := rfl
  have e1 : (row 136 MZ 1).toInt = 0 := by show (rd MZ 136 1).toInt = 0; rw [x1]; rfl
  have e0 : (row 136 MZ 0).toInt = 0 := by show (rd MZ 136 0).toInt = 0; rw [x0]; rfl
  have e19 : (row 136 MZ 19).toInt = 0 := by show (rd MZ 136 19).toInt = 0; rw [x19]; rfl
  have e53 : (row 136 MZ 53).toInt = 0 := by show (rd MZ 136 53).toInt = 0; rw [x53]; rfl
  refine ⟨y0, by rw [e1]; omega, by rw [e1, e0]; rfl, fun j hj => by rw [e1] at hj; omega, by rw [y2, n0]; omega, fun b hb => by rw [e0] at hb; omega, ?_, y3, y48, mz_tl, y7, y10, by rw [e19]; omega, fun j hj => by rw [e19] at hj; omega, fun j hj => by rw [e19] at hj; omega, y13, y14, by rw [e53]; omega, fun j hj => by rw [e53] at hj; omega⟩
  rw [y2, n0, e0]; decide
theorem ss_MZ : SS MZ MZ := by
  obtain ⟨x119, x6, x2, x21, x1, x0, x19, x53, x4⟩ := mz_x
  have n0 : ((0 : Int32)).toInt = 0 := rfl
  have en : nb 119 MZ = 0 := by unfold nb; rw [x119]; rfl
  refine ⟨pr_MZ, ⟨0, 0, x4, x2, x21, by omega, by omega, fun i hi => by omega⟩, RI.flat x53, fun i hi h => by rw [x4, n0] at h; omega, fun a ha hw => ?_, by rw [x119, n0]; omega, fun z => absurd x6 z⟩
  rw [en] at ha
  exact absurd (mz_127 a (by omega)) hw
