/-! calls that throw whatever their parameters: there is no bend, no leg -/
def ME : Mem := wr MZ 135 5 1
theorem bt_ex (x lo hi : Int64) (M : Mem) : ∃ r, mX7_between x lo hi M = some r := by
  unfold mX7_between ite2
  split
  · exact ⟨_, rfl⟩
  · split <;> exact ⟨_, rfl⟩
theorem bt_0 {x lo hi : Int64} {M : Mem} (h : x < lo ∨ hi < x) : mX7_between x lo hi M = some 0 := by
  unfold mX7_between ite2
  by_cases c : lg_cmp x lo < 0
  · rw [if_pos c]
  · rw [if_neg c]
    rcases h with h | h
    · exact absurd ((lg_cmp_lt x lo).mpr h) c
    · rw [if_pos ((lg_cmp_gt x hi).mpr h)]
theorem bt_1 {x lo hi : Int64} {M : Mem} (h1 : ¬ x < lo) (h2 : ¬ hi < x) : mX7_between x lo hi M = some 1 := by
  unfold mX7_between ite2
  rw [if_neg (fun q => h1 ((lg_cmp_lt x lo).mp q)), if_neg (fun q => h2 ((lg_cmp_gt x hi).mp q))]
theorem bt_neg (a : Int32) (M : Mem) : mX7_between a.toInt64 0 (-1) M = some 0 := by
  refine bt_0 ?_
  simp only [Int64.lt_iff_toInt_lt]
  have h1 : (0 : Int64).toInt = 0 := by decide
  have h2 : (-1 : Int64).toInt = -1 := by decide
  rw [h1, h2]
  omega
theorem z_bend (a : Int32) : mX7_isBend 135 a MZ = some 0 := by
  have k0 : okb (0 : Int32) 86 = true := by decide
  have h0 : ((rd MZ (135 + 1) ((0 : Int32)).toNatClampNeg) - (1 : Int32)).toInt64 = (-1 : Int64) := by decide +kernel
  unfold mX7_isBend
  rw [chk_t k0, h0, bt_neg, cap_e, chk_t (by decide)]
theorem z_leg (a : Int32) : mX7_isLeg 135 a MZ = some 0 := by
  have k0 : okb (1 : Int32) 86 = true := by decide
  have h0 : ((rd MZ (135 + 1) ((1 : Int32)).toNatClampNeg) - (1 : Int32)).toInt64 = (-1 : Int64) := by decide +kernel
  unfold mX7_isLeg
  rw [chk_t k0, h0, bt_neg, cap_e, chk_t (by decide)]
theorem z_side (a : Int32) (M : Mem) : ∃ r, mX7_isSide a M = some r := by
  unfold mX7_isSide mX7_between ite2 chk
  by_cases c1 : lg_cmp a.toInt64 0 < 0
  · rw [if_pos c1]; exact ⟨0, rfl⟩
  · rw [if_neg c1]
    by_cases c2 : 0 < lg_cmp a.toInt64 1
    · rw [if_pos c2]; exact ⟨0, rfl⟩
    · rw [if_neg c2]; exact ⟨1, rfl⟩
theorem z_good : mX7_good 135 0 MZ = some (ME, 0) := rfl
theorem z_good2 (b : Int32) : mX7_good_ 135 0 b MZ = some (ME, 0) := by
  unfold mX7_good_ ite2
  rw [if_pos rfl]
  rfl
theorem z_good3 (b c : Int32) : mX7_good__ 135 0 b c MZ = some (ME, 0) := by
  unfold mX7_good__ ite2
  rw [if_pos rfl]
  rfl
theorem z_th : mX7_thrown 135 ME = some 1 := rfl
theorem z_rLeg (a : Int32) : mX6_requireLeg 0 a MZ = some (MZ, .inr 1) := by
  have h0 : rd MZ 5 0 = 0 := rfl
  unfold mX6_requireLeg ite2
  by_cases c : a < 0
  · rw [if_pos c]; rfl
  · rw [if_neg c, h0, if_pos (by rw [Int32.le_iff_toInt_le]; rw [Int32.lt_iff_toInt_lt] at c; omega)]; rfl
theorem z_cnt : mX1_bendCount 5 MZ = some 0 := rfl
theorem z_rBend (a : Int32) : mX6_requireBend 0 a MZ = some (MZ, .inr 1) := by
  unfold mX6_requireBend ite2
  by_cases c : a < 0
  · rw [if_pos c]; rfl
  · rw [if_neg c, z_cnt, cap_e, if_pos (by rw [Int32.le_iff_toInt_le]; rw [Int32.lt_iff_toInt_lt] at c; omega)]; rfl
theorem z_rStep (a b : Int32) : mX6_requireStep 0 a b MZ = some (MZ, .inr 1) := by
  unfold mX6_requireStep
  rw [z_rBend]
  rfl
theorem le_of {a : Int32} (c : ¬ a < 0) : (0 : Int32) ≤ a := by
  rw [Int32.le_iff_toInt_le]; rw [Int32.lt_iff_toInt_lt] at c; omega
theorem zr_6 (a1 : Int32) : mL_leg 0 152 a1 MZ = some (MZ, .inl 1) := by
  unfold mL_leg mX6_leg
  rw [z_rLeg]
  rfl
theorem zm_6 (a1 : Int32) : mX7_leg 135 a1 MZ = some (ME, 0) := by
  unfold mX7_leg
  rw [z_leg, cap_e, z_good, cal_e, ite_p rfl]
theorem cz_6 (a1 a2 a3 a4 a5 : Int32) : ∃ M' N', mlc_6 a1 a2 a3 a4 a5 MZ MZ = some (M', N') := by
  refine ⟨MZ, ME, ?_⟩
  unfold mlc_6
  rw [zr_6, calh_e, zm_6, cal_e, z_th, cap_e, ite_p rfl, ite_n (by decide)]
theorem zr_7 (a1 : Int32) : mL_isUp 0 152 a1 MZ = some (MZ, .inl 1) := by
  unfold mL_isUp mX6_isUp
  rw [z_rBend]
  rfl
theorem zm_7 (a1 : Int32) : mX7_isUp 135 a1 MZ = some (ME, 0) := by
  unfold mX7_isUp
  rw [z_bend, cap_e, z_good, cal_e, ite_p rfl]
theorem cz_7 (a1 a2 a3 a4 a5 : Int32) : ∃ M' N', mlc_7 a1 a2 a3 a4 a5 MZ MZ = some (M', N') := by
  refine ⟨MZ, ME, ?_⟩
  unfold mlc_7
  rw [zr_7, calh_e, zm_7, cal_e, z_th, cap_e, ite_p rfl, ite_n (by decide)]
theorem zr_10 (a1 : Int32) : mL_linePlace 0 153 a1 MZ = some (MZ, .inl 1) := by
  unfold mL_linePlace mX6_linePlace
  rw [z_rBend]
  rfl
theorem zm_10 (a1 : Int32) : mX7_linePlace 135 a1 MZ = some (ME, FP.dconst0) := by
  unfold mX7_linePlace
  rw [z_bend, cap_e, z_good, cal_e, ite_p rfl]
theorem cz_10 (a1 a2 a3 a4 a5 : Int32) : ∃ M' N', mlc_10 a1 a2 a3 a4 a5 MZ MZ = some (M', N') := by
  refine ⟨MZ, ME, ?_⟩
  unfold mlc_10
  rw [zr_10, calh_e, zm_10, cal_e, z_th, cap_e, ite_p rfl, ite_n (by decide)]
theorem zr_19 (a1 a2 : Int32) : mL_finishedCorner 0 152 a1 a2 MZ = some (MZ, .inl 1) := by
  unfold mL_finishedCorner mX6_finishedCorner
  rw [z_rLeg]
  rfl
theorem zm_19 (a1 a2 : Int32) : mX7_finishedCorner 135 a1 a2 MZ = some (ME, 0) := by
  obtain ⟨r, hr⟩ := bt_ex a2.toInt64 0 1 MZ
  unfold mX7_finishedCorner
  rw [z_leg, cap_e, hr, cap_e, z_good2, cal_e, ite_p rfl]
theorem cz_19 (a1 a2 a3 a4 a5 : Int32) : ∃ M' N', mlc_19 a1 a2 a3 a4 a5 MZ MZ = some (M', N') := by
  refine ⟨MZ, ME, ?_⟩
  unfold mlc_19
  rw [zr_19, calh_e, zm_19, cal_e, z_th, cap_e, ite_p rfl, ite_n (by decide)]
theorem zr_24 (a1 a2 : Int32) : mL_step 0 152 a1 a2 MZ = some (MZ, .inl 1) := by
  have h0 : rd MZ 5 14 = 0 := rfl
  unfold mL_step mX6_step ite2
  by_cases c : a1 < 0
  · rw [if_pos c]; rfl
  · rw [if_neg c, h0, if_pos (le_of c)]; rfl
theorem zm_24 (a1 a2 : Int32) : mX7_step 135 a1 a2 MZ = some (ME, 0) := by
  have k0 : okb (53 : Int32) 86 = true := by decide
  have h0 : ((rd MZ (135 + 1) ((53 : Int32)).toNatClampNeg) - (1 : Int32)).toInt64 = (-1 : Int64) := by decide +kernel
  obtain ⟨r, hr⟩ := bt_ex a2.toInt64 0 3 MZ
  unfold mX7_step
  rw [chk_t k0, h0, bt_neg, cap_e, hr, cap_e, z_good2, cal_e, ite_p rfl]
theorem cz_24 (a1 a2 a3 a4 a5 : Int32) : ∃ M' N', mlc_24 a1 a2 a3 a4 a5 MZ MZ = some (M', N') := by
  refine ⟨MZ, ME, ?_⟩
  unfold mlc_24
  rw [zr_24, calh_e, zm_24, cal_e, z_th, cap_e, ite_p rfl, ite_n (by decide)]
theorem zr_26 (a1 a2 : Int32) : mL_reason 0 152 a1 a2 MZ = some (MZ, .inl 1) := by
  unfold mL_reason mX6_reason
  rw [z_rStep]
  rfl
theorem zm_26 (a1 a2 : Int32) : mX7_reason 135 a1 a2 MZ = some (ME, 0) := by
  obtain ⟨r, hr⟩ := z_side a2 MZ
  unfold mX7_reason
  rw [z_bend, cap_e, hr, cap_e, z_good2, cal_e, ite_p rfl]
theorem cz_26 (a1 a2 a3 a4 a5 : Int32) : ∃ M' N', mlc_26 a1 a2 a3 a4 a5 MZ MZ = some (M', N') := by
  refine ⟨MZ, ME, ?_⟩
  unfold mlc_26
  rw [zr_26, calh_e, zm_26, cal_e, z_th, cap_e, ite_p rfl, ite_n (by decide)]
theorem zr_27 (a1 a2 : Int32) : mL_gauge 0 152 a1 a2 MZ = some (MZ, .inl 1) := by
  unfold mL_gauge mX6_gauge
  rw [z_rStep]
  rfl
theorem zm_27 (a1 a2 : Int32) : mX7_gauge 135 a1 a2 MZ = some (ME, 0) := by
  obtain ⟨r, hr⟩ := z_side a2 MZ
  unfold mX7_gauge
  rw [z_bend, cap_e, hr, cap_e, z_good2, cal_e, ite_p rfl]
theorem cz_27 (a1 a2 a3 a4 a5 : Int32) : ∃ M' N', mlc_27 a1 a2 a3 a4 a5 MZ MZ = some (M', N') := by
  refine ⟨MZ, ME, ?_⟩
  unfold mlc_27
  rw [zr_27, calh_e, zm_27, cal_e, z_th, cap_e, ite_p rfl, ite_n (by decide)]
theorem zr_28 (a1 a2 a3 a4 : Int32) : mL_corner 0 152 a1 a2 a3 a4 MZ = some (MZ, .inl 1) := by
  unfold mL_corner mX6_corner
  rw [z_rBend]
  rfl
theorem zm_28 (a1 a2 a3 a4 : Int32) : mX7_corner 135 a1 a2 a3 a4 MZ = some (ME, 0) := by
  have e : ∀ y, mX7_corner_b45 135 a1 a2 a3 a4 0 y MZ = some (ME, 0) := fun y => by
    unfold mX7_corner_b45
    rw [z_good2, cal_e, ite_p rfl]
  obtain ⟨r, hr⟩ := z_side a2 MZ
  obtain ⟨r2, hr2⟩ := bt_ex a4.toInt64 0 1 MZ
  unfold mX7_corner
  rw [z_bend, cap_e, ite_p rfl]
  unfold mX7_corner_b21 mX7_corner_b22 mX7_corner_b44
  rw [hr, cap_e, e, hr2, cap_e, e]
  unfold ite2
  split
  · rfl
  · split <;> rfl
theorem cz_28 (a1 a2 a3 a4 a5 : Int32) : ∃ M' N', mlc_28 a1 a2 a3 a4 a5 MZ MZ = some (M', N') := by
  refine ⟨MZ, ME, ?_⟩
  unfold mlc_28
  rw [zr_28, calh_e, zm_28, cal_e, z_th, cap_e, ite_p rfl, ite_n (by decide)]
theorem zr_29 (a1 a2 : Int32) : mL_top 0 152 a1 a2 MZ = some (MZ, .inl 1) := by
  unfold mL_top mX6_top
  rw [z_rStep]
  rfl
theorem zm_29 (a1 a2 : Int32) : mX7_top 135 a1 a2 MZ = some (ME, 0) := by
  obtain ⟨r, hr⟩ := z_side a2 MZ
  unfold mX7_top
  rw [z_bend, cap_e, hr, cap_e, z_good2, cal_e, ite_p rfl]
theorem cz_29 (a1 a2 a3 a4 a5 : Int32) : ∃ M' N', mlc_29 a1 a2 a3 a4 a5 MZ MZ = some (M', N') := by
  refine ⟨MZ, ME, ?_⟩
  unfold mlc_29
  rw [zr_29, calh_e, zm_29, cal_e, z_th, cap_e, ite_p rfl, ite_n (by decide)]
theorem zr_30 (a1 a2 : Int32) : mL_hitting 0 152 a1 a2 MZ = some (MZ, .inl 1) := by
  unfold mL_hitting mX6_hitting
  rw [z_rStep]
  rfl
theorem zm_30 (a1 a2 : Int32) : mX7_hitting 135 a1 a2 MZ = some (ME, 0) := by
  obtain ⟨r, hr⟩ := z_side a2 MZ
  unfold mX7_hitting
  rw [z_bend, cap_e, hr, cap_e, z_good2, cal_e, ite_p rfl]
theorem cz_30 (a1 a2 a3 a4 a5 : Int32) : ∃ M' N', mlc_30 a1 a2 a3 a4 a5 MZ MZ = some (M', N') := by
  refine ⟨MZ, ME, ?_⟩
  unfold mlc_30
  rw [zr_30, calh_e, zm_30, cal_e, z_th, cap_e, ite_p rfl, ite_n (by decide)]
theorem zr_34 (a1 a2 : Int32) : mL_costOf 0 152 a1 a2 MZ = some (MZ, .inl 1) := by
  unfold mL_costOf mX6_costOf
  rw [z_rStep]
  rfl
theorem zm_34 (a1 a2 : Int32) : mX7_costOf 135 a1 a2 MZ = some (ME, 0) := by
  obtain ⟨r, hr⟩ := z_side a2 MZ
  unfold mX7_costOf
  rw [z_bend, cap_e, hr, cap_e, z_good2, cal_e, ite_p rfl]
theorem cz_34 (a1 a2 a3 a4 a5 : Int32) : ∃ M' N', mlc_34 a1 a2 a3 a4 a5 MZ MZ = some (M', N') := by
  refine ⟨MZ, ME, ?_⟩
  unfold mlc_34
  rw [zr_34, calh_e, zm_34, cal_e, z_th, cap_e, ite_p rfl, ite_n (by decide)]
theorem zr_40 (a1 a2 : Int32) : mL_ordersWith 0 152 a1 a2 MZ = some (MZ, .inl 1) := by
  unfold mL_ordersWith mX6_ordersWith
  rw [z_rStep]
  rfl
theorem zm_40 (a1 a2 : Int32) : mX7_ordersWith 135 a1 a2 MZ = some (ME, 0) := by
  obtain ⟨r, hr⟩ := z_side a2 MZ
  unfold mX7_ordersWith
  rw [z_bend, cap_e, hr, cap_e, z_good2, cal_e, ite_p rfl]
theorem cz_40 (a1 a2 a3 a4 a5 : Int32) : ∃ M' N', mlc_40 a1 a2 a3 a4 a5 MZ MZ = some (M', N') := by
  refine ⟨MZ, ME, ?_⟩
  unfold mlc_40
  rw [zr_40, calh_e, zm_40, cal_e, z_th, cap_e, ite_p rfl, ite_n (by decide)]
theorem zr_44 (a1 : Int32) : mL_costIfTurned 0 152 a1 MZ = some (MZ, .inl 1) := by
  unfold mL_costIfTurned mX6_costIfTurned
  rw [z_rBend]
  rfl
theorem zm_44 (a1 : Int32) : mX7_costIfTurned 135 a1 MZ = some (ME, 0) := by
  have k0 : okb (53 : Int32) 86 = true := by decide
  have h0 : rd MZ (135 + 1) ((53 : Int32)).toNatClampNeg = 0 := by decide +kernel
  unfold mX7_costIfTurned
  rw [z_bend, cap_e, chk_t k0, ite_p h0]
  unfold mX7_costIfTurned_b21
  rw [z_good2, cal_e, ite_p rfl]
theorem cz_44 (a1 a2 a3 a4 a5 : Int32) : ∃ M' N', mlc_44 a1 a2 a3 a4 a5 MZ MZ = some (M', N') := by
  refine ⟨MZ, ME, ?_⟩
  unfold mlc_44
  rw [zr_44, calh_e, zm_44, cal_e, z_th, cap_e, ite_p rfl, ite_n (by decide)]
theorem zr_45 (a1 a2 : Int32) : mL_fold 0 152 a1 a2 MZ = some (MZ, .inl 1) := by
  unfold mL_fold mX6_fold
  rw [z_rStep]
  rfl
theorem zm_45 (a1 a2 : Int32) : mX7_fold 135 a1 a2 MZ = some (ME, 0) := by
  obtain ⟨r, hr⟩ := z_side a2 MZ
  unfold mX7_fold
  rw [z_bend, cap_e, hr, cap_e, ite_p rfl]
  unfold mX7_fold_b45 mX7_fold_b46
  rw [z_good3, cal_e, ite_p rfl]
theorem cz_45 (a1 a2 a3 a4 a5 : Int32) : ∃ M' N', mlc_45 a1 a2 a3 a4 a5 MZ MZ = some (M', N') := by
  refine ⟨MZ, ME, ?_⟩
  unfold mlc_45
  rw [zr_45, calh_e, zm_45, cal_e, z_th, cap_e, ite_p rfl, ite_n (by decide)]
theorem zr_48 (a1 a2 : Int32) : mL_setLeg 0 152 a1 a2 MZ = some (MZ, .inl 1) := by
  unfold mL_setLeg mX6_setLeg
  rw [z_rLeg]
  rfl
theorem zm_48 (a1 a2 : Int32) : mX7_setLeg 135 a1 a2 MZ = some (ME, 0) := by
  have k0 : okb (53 : Int32) 86 = true := by decide
  have h0 : rd MZ (135 + 1) ((53 : Int32)).toNatClampNeg = 0 := by decide +kernel
  obtain ⟨r, hr⟩ := bt_ex a2.toInt64 1 9999 MZ
  unfold mX7_setLeg
  rw [z_leg, cap_e, hr, cap_e, chk_t k0, ite_p h0]
  unfold mX7_setLeg_b30
  rw [z_good3, cal_e, ite_p rfl]
theorem cz_48 (a1 a2 a3 a4 a5 : Int32) : ∃ M' N', mlc_48 a1 a2 a3 a4 a5 MZ MZ = some (M', N') := by
  refine ⟨MZ, ME, ?_⟩
  unfold mlc_48
  rw [zr_48, calh_e, zm_48, cal_e, z_th, cap_e, ite_p rfl, ite_n (by decide)]
theorem zr_49 (a1 a2 : Int32) : mL_setDirection 0 152 a1 a2 MZ = some (MZ, .inl 1) := by
  unfold mL_setDirection mX6_setDirection
  rw [z_rBend]
  rfl
theorem zm_49 (a1 a2 : Int32) : mX7_setDirection 135 a1 a2 MZ = some (ME, 0) := by
  have k0 : okb (53 : Int32) 86 = true := by decide
  have h0 : rd MZ (135 + 1) ((53 : Int32)).toNatClampNeg = 0 := by decide +kernel
  unfold mX7_setDirection
  rw [z_bend, cap_e, chk_t k0, ite_p h0]
  unfold mX7_setDirection_b21
  rw [z_good2, cal_e, ite_p rfl]
theorem cz_49 (a1 a2 a3 a4 a5 : Int32) : ∃ M' N', mlc_49 a1 a2 a3 a4 a5 MZ MZ = some (M', N') := by
  refine ⟨MZ, ME, ?_⟩
  unfold mlc_49
  by_cases c : a2 = 0
  · rw [ite_p c, zr_49, calh_e, ite_p c, zm_49, cal_e, z_th, cap_e, ite_p rfl, ite_n (by decide)]
  · rw [ite_n c, zr_49, calh_e, ite_n c, zm_49, cal_e, z_th, cap_e, ite_p rfl, ite_n (by decide)]
theorem zr_55 (a1 : Int32) : mL_written 0 152 a1 MZ = some (MZ, .inl 1) := by
  unfold mL_written mX6_written ite2
  by_cases c : a1 < 0
  · rw [if_pos c]; rfl
  · rw [if_neg c, show mJ4_length_8abf5 133 MZ = some 0 from rfl]
    rw [cap_e, if_neg c]; rfl
theorem zm_55 (a1 : Int32) : mX7_written 135 a1 MZ = some (ME, 0) := by
  have h0 : ((rd MZ 135 30) - (1 : Int32)).toInt64 = (-1 : Int64) := by decide +kernel
  unfold mX7_written
  rw [h0, bt_neg, cap_e, z_good, cal_e, ite_p rfl]
theorem cz_55 (a1 a2 a3 a4 a5 : Int32) : ∃ M' N', mlc_55 a1 a2 a3 a4 a5 MZ MZ = some (M', N') := by
  refine ⟨MZ, ME, ?_⟩
  unfold mlc_55
  rw [zr_55, calh_e, zm_55, cal_e, z_th, cap_e, ite_p rfl, ite_n (by decide)]
theorem zp_r : (match mX3_prepare 110 5 MZ with | some (M, _) => decide (rd M 110 3 = 0) | none => false) = true := by decide +kernel
theorem zp_m : (match mX7_layCosts 135 MZ with | some (M, _) => (match mX7_isOrder 135 M with | some r => decide (r = 0) || (match mX7_unmade 135 M with | some u => decide ((u - (1 : Int32)).toInt64 = (-1 : Int64)) | none => false) | none => false) | none => false) = true := by decide +kernel
theorem cz_38 (a1 a2 a3 a4 a5 : Int32) : ∃ M' N', mlc_38 a1 a2 a3 a4 a5 MZ MZ = some (M', N') := by
  have h1 := zp_r
  have h2 := zp_m
  match e1 : mX3_prepare 110 5 MZ, h1 with
  | some (M3, ()), h1 =>
  have h1 : rd M3 110 3 = 0 := of_decide_eq_true h1
  have f1 : mL_planned 0 152 a1 MZ = some (M3, .inl 1) := by
    unfold mL_planned mX6_planned
    rw [e1, cal_e]
    by_cases c : a1 < 0
    · rw [ite_p c]; rfl
    · rw [ite_n c, h1, ite_p (le_of c)]; rfl
  match e2 : mX7_layCosts 135 MZ, h2 with
  | some (M4, ()), h2 =>
  have f3 : ∃ N', mX7_planned_b33 135 a1 0 M4 = some (N', 0) ∧ mX7_thrown 135 N' = some 1 := ⟨wr M4 135 5 1, rfl, rfl⟩
  obtain ⟨N', f3, f4⟩ := f3
  have f2 : mX7_planned 135 a1 MZ = some (N', 0) := by
    unfold mX7_planned mX7_planned_b32
    rw [e2, cal_e]
    match e3 : mX7_isOrder 135 M4 with
    | none =>
      simp only [e3] at h2
      cases h2
    | some r =>
      simp only [e3] at h2
      rw [cap_e]
      by_cases c : r = 0
      · rw [ite_p c, f3]
      · rw [ite_n c]
        rw [decide_eq_false c, Bool.false_or] at h2
        match e4 : mX7_unmade 135 M4 with
        | none =>
          simp only [e4] at h2
          cases h2
        | some u =>
          simp only [e4] at h2
          have h2 := of_decide_eq_true h2
          rw [cap_e, h2, bt_neg, cap_e, ite_p rfl]
          exact f3
  refine ⟨M3, N', ?_⟩
  unfold mlc_38
  rw [f1, calh_e, f2, cal_e, f4, cap_e, ite_p rfl, ite_n (by decide)]
