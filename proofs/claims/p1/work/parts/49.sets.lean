/-! setTool, setSheet, setCost -/
theorem al0 {w : Nat} {x lo hi : Int32} {M : Mem} {l h : Int} (e1 : wF0.getD w 0 = lo) (e2 : wF1.getD w 0 = hi) (hl : lo.toInt = l) (hh : hi.toInt = h) : (¬ x.toInt < l → ¬ h < x.toInt → mX5_allows w 0 x M = some 1) ∧ ((x.toInt < l ∨ h < x.toInt) → mX5_allows w 0 x M = some 0) := by
  unfold mX5_allows ite2
  rw [if_pos rfl, e1, e2]
  refine ⟨fun h1 h2 => ?_, fun h1 => ?_⟩
  · rw [if_neg (by rw [tI hl]; exact h1), if_neg (by rw [tJ hh]; exact h2)]
  · by_cases c : x < lo
    · rw [if_pos c]
    · rw [if_neg c, if_pos (by rw [tJ hh]; rw [tI hl] at c; exact h1.resolve_left c)]
theorem al1 {w : Nat} {x hi : Int32} {M : Mem} {h : Int} (e2 : wF2.getD w 0 = hi) (hh : hi.toInt = h) : (¬ x.toInt < 0 → ¬ h < x.toInt → mX5_allows w 1 x M = some 1) ∧ ((x.toInt < 0 ∨ h < x.toInt) → mX5_allows w 1 x M = some 0) := by
  have hl : (0 : Int32).toInt = 0 := by decide
  unfold mX5_allows ite2
  rw [if_neg (by decide), if_pos rfl, e2]
  refine ⟨fun h1 h2 => ?_, fun h1 => ?_⟩
  · rw [if_neg (by rw [tI hl]; exact h1), if_neg (by rw [tJ hh]; exact h2)]
  · by_cases c : x < 0
    · rw [if_pos c]
    · rw [if_neg c, if_pos (by rw [tJ hh]; rw [tI hl] at c; exact h1.resolve_left c)]
theorem al2 {w : Nat} {x hi : Int32} {M : Mem} {h : Int} (e2 : wF3.getD w 0 = hi) (hh : hi.toInt = h) : (¬ x.toInt < 0 → ¬ h < x.toInt → mX5_allows w 2 x M = some 1) ∧ ((x.toInt < 0 ∨ h < x.toInt) → mX5_allows w 2 x M = some 0) := by
  have hl : (0 : Int32).toInt = 0 := by decide
  unfold mX5_allows ite2
  rw [if_neg (by decide), if_neg (by decide), e2]
  refine ⟨fun h1 h2 => ?_, fun h1 => ?_⟩
  · rw [if_neg (by rw [tI hl]; exact h1), if_neg (by rw [tJ hh]; exact h2)]
  · by_cases c : x < 0
    · rw [if_pos c]
    · rw [if_neg c, if_pos (by rw [tJ hh]; rw [tI hl] at c; exact h1.resolve_left c)]
theorem bl {x : Int32} {lo hi : Int64} {l h : Int} {M : Mem} (hl : lo.toInt = l) (hh : hi.toInt = h) : (¬ x.toInt < l → ¬ h < x.toInt → mX7_between x.toInt64 lo hi M = some 1) ∧ ((x.toInt < l ∨ h < x.toInt) → mX7_between x.toInt64 lo hi M = some 0) :=
  ⟨fun h1 h2 => bt_1 (by rw [tL hl]; exact h1) (by rw [tK hh]; exact h2), fun h1 => bt_0 (by rw [tL hl, tK hh]; exact h1)⟩
def remOk (A B : Mem) : Bool := decide (rd B 135 5 = 0) && decide (rd A 5 3 = rd B 136 36) && decide (rd A 5 7 = rd B 136 49) && decide (rd A 7 0 = rd B 136 39) && decide (rd A 7 2 = rd B 136 41) && decide (rd A 7 4 = rd B 136 43) && decide (rd A 7 6 = rd B 136 45) && decide (rd A 7 8 = rd B 136 47)
def both (x y : Option (Mem × Unit)) (f : Mem → Mem → Bool) : Bool := match x, y with
  | some (A, _), some (B, _) => f A B
  | _, _ => false
theorem both_s {x y : Option (Mem × Unit)} {f : Mem → Mem → Bool} (h : both x y f = true) : ∃ A B, x = some (A, ()) ∧ y = some (B, ()) ∧ f A B = true := by
  match x, y, h with
  | some (A, ()), some (B, ()), h => exact ⟨A, B, rfl, rfl, h⟩
theorem rem_k : both (mX0_remember 21 5 MZ) (mX7_remember 135 MF) remOk = true := by decide +kernel
theorem rem_s : ∃ A B, mX0_remember 21 5 MZ = some (A, ()) ∧ mX7_remember 135 MF = some (B, ()) ∧ remOk A B = true := both_s rem_k
theorem rem_e {A B : Mem} (h : remOk A B = true) : rd B 135 5 = 0 ∧ rd A 5 3 = rd B 136 36 ∧ rd A 5 7 = rd B 136 49 ∧ rd A 7 0 = rd B 136 39 ∧ rd A 7 2 = rd B 136 41 ∧ rd A 7 4 = rd B 136 43 ∧ rd A 7 6 = rd B 136 45 ∧ rd A 7 8 = rd B 136 47 := by
  simp only [remOk, Bool.and_eq_true, decide_eq_true_eq] at h
  obtain ⟨⟨⟨⟨⟨⟨⟨h1, h2⟩, h3⟩, h4⟩, h5⟩, h6⟩, h7⟩, h8⟩ := h
  exact ⟨h1, h2, h3, h4, h5, h6, h7, h8⟩
theorem s_thr_50 {a1 a2 a3 : Int32} (h : mX6_setTool 0 a1 a2 a3 MZ = some (MZ, .inr 0)) (e2 : mX7_setTool 135 a1 a2 a3 MZ = some (ME, 0)) (a4 a5 : Int32) : ∃ M' N', mlc_50 a1 a2 a3 a4 a5 MZ MZ = some (M', N') := by
  have e1 : mL_setTool 0 152 a1 a2 a3 MZ = some (MZ, .inl 1) := by
    unfold mL_setTool
    rw [h]; rfl
  refine ⟨MZ, ME, ?_⟩
  unfold mlc_50
  rw [e1, calh_e, e2, cal_e, z_th, cap_e, ite_p rfl, ite_n (by decide)]
theorem s_ok_50 {a1 a2 a3 : Int32} {M N : Mem} {v : Int32} (h : mX6_setTool 0 a1 a2 a3 MZ = some (M, .inl v)) (e2 : mX7_setTool 135 a1 a2 a3 MZ = some (N, v)) (ht : rd N 135 5 = 0) (a4 a5 : Int32) : ∃ M' N', mlc_50 a1 a2 a3 a4 a5 MZ MZ = some (M', N') := by
  have e1 : mL_setTool 0 152 a1 a2 a3 MZ = some (wl M 152 0 v.toInt64, .inl 0) := by
    unfold mL_setTool
    rw [h]; rfl
  have e3 : rl (wl M 152 0 v.toInt64) 152 ((0 : Int32)).toNatClampNeg = v.toInt64 := by
    show (wl M 152 0 v.toInt64).2.1 152 0 = _
    rw [wl_s]; rfl
  refine ⟨wl M 152 0 v.toInt64, N, ?_⟩
  unfold mlc_50
  rw [e1, calh_e, e2, cal_e, show mX7_thrown 135 N = some (rd N 135 5) from rfl, cap_e, ite_p ht, ite_p rfl, chk_t (by decide), ite_p (by rw [e3]; exact (lg_cmp_eq _ _).mpr rfl)]
theorem s_thr_51 {a1 a2 a3 : Int32} (h : mX6_setSheet 0 a1 a2 a3 MZ = some (MZ, .inr 0)) (e2 : mX7_setSheet 135 a1 a2 a3 MZ = some (ME, 0)) (a4 a5 : Int32) : ∃ M' N', mlc_51 a1 a2 a3 a4 a5 MZ MZ = some (M', N') := by
  have e1 : mL_setSheet 0 152 a1 a2 a3 MZ = some (MZ, .inl 1) := by
    unfold mL_setSheet
    rw [h]; rfl
  refine ⟨MZ, ME, ?_⟩
  unfold mlc_51
  rw [e1, calh_e, e2, cal_e, z_th, cap_e, ite_p rfl, ite_n (by decide)]
theorem s_ok_51 {a1 a2 a3 : Int32} {M N : Mem} {v : Int32} (h : mX6_setSheet 0 a1 a2 a3 MZ = some (M, .inl v)) (e2 : mX7_setSheet 135 a1 a2 a3 MZ = some (N, v)) (ht : rd N 135 5 = 0) (a4 a5 : Int32) : ∃ M' N', mlc_51 a1 a2 a3 a4 a5 MZ MZ = some (M', N') := by
  have e1 : mL_setSheet 0 152 a1 a2 a3 MZ = some (wl M 152 0 v.toInt64, .inl 0) := by
    unfold mL_setSheet
    rw [h]; rfl
  have e3 : rl (wl M 152 0 v.toInt64) 152 ((0 : Int32)).toNatClampNeg = v.toInt64 := by
    show (wl M 152 0 v.toInt64).2.1 152 0 = _
    rw [wl_s]; rfl
  refine ⟨wl M 152 0 v.toInt64, N, ?_⟩
  unfold mlc_51
  rw [e1, calh_e, e2, cal_e, show mX7_thrown 135 N = some (rd N 135 5) from rfl, cap_e, ite_p ht, ite_p rfl, chk_t (by decide), ite_p (by rw [e3]; exact (lg_cmp_eq _ _).mpr rfl)]
theorem s_thr_52 {a1 a2 a3 : Int32} (h : mX6_setCost 0 a1 a2 a3 MZ = some (MZ, .inr 0)) (e2 : mX7_setCost 135 a1 a2 a3 MZ = some (ME, 0)) (a4 a5 : Int32) : ∃ M' N', mlc_52 a1 a2 a3 a4 a5 MZ MZ = some (M', N') := by
  have e1 : mL_setCost 0 152 a1 a2 a3 MZ = some (MZ, .inl 1) := by
    unfold mL_setCost
    rw [h]; rfl
  refine ⟨MZ, ME, ?_⟩
  unfold mlc_52
  rw [e1, calh_e, e2, cal_e, z_th, cap_e, ite_p rfl, ite_n (by decide)]
theorem s_ok_52 {a1 a2 a3 : Int32} {M N : Mem} {v : Int32} (h : mX6_setCost 0 a1 a2 a3 MZ = some (M, .inl v)) (e2 : mX7_setCost 135 a1 a2 a3 MZ = some (N, v)) (ht : rd N 135 5 = 0) (a4 a5 : Int32) : ∃ M' N', mlc_52 a1 a2 a3 a4 a5 MZ MZ = some (M', N') := by
  have e1 : mL_setCost 0 152 a1 a2 a3 MZ = some (wl M 152 0 v.toInt64, .inl 0) := by
    unfold mL_setCost
    rw [h]; rfl
  have e3 : rl (wl M 152 0 v.toInt64) 152 ((0 : Int32)).toNatClampNeg = v.toInt64 := by
    show (wl M 152 0 v.toInt64).2.1 152 0 = _
    rw [wl_s]; rfl
  refine ⟨wl M 152 0 v.toInt64, N, ?_⟩
  unfold mlc_52
  rw [e1, calh_e, e2, cal_e, show mX7_thrown 135 N = some (rd N 135 5) from rfl, cap_e, ite_p ht, ite_p rfl, chk_t (by decide), ite_p (by rw [e3]; exact (lg_cmp_eq _ _).mpr rfl)]
theorem cz_51 (a1 a2 a3 a4 a5 : Int32) : ∃ M' N', mlc_51 a1 a2 a3 a4 a5 MZ MZ = some (M', N') := by
  have p1 := al0 (w := 0) (x := a1) (M := MZ) (l := 1) (h := 60) rfl rfl (by decide) (by decide)
  have p2 := al1 (w := 0) (x := a2) (M := MZ) (h := 200) rfl (by decide)
  have p3 := al2 (w := 0) (x := a3) (M := MZ) (h := 100) rfl (by decide)
  have q1 := bl (x := a1) (lo := 1) (hi := 60) (l := 1) (h := 60) (M := MZ) (by decide) (by decide)
  have q2 := bl (x := a2) (lo := 0) (hi := 200) (l := 0) (h := 200) (M := MZ) (by decide) (by decide)
  have q3 := bl (x := a3) (lo := 0) (hi := 100) (l := 0) (h := 100) (M := MZ) (by decide) (by decide)
  have hb : mX7_setSheet_b41 135 a1 a2 a3 MZ = some (ME, 0) := by
    unfold mX7_setSheet_b41 mX7_setSheet_b42
    rw [z_good, cal_e, ite_p rfl]
  by_cases c1 : a1.toInt < 1 ∨ 60 < a1.toInt
  · refine s_thr_51 ?_ ?_ a4 a5
    · unfold mX6_setSheet
      rw [p1.2 c1, cap_e, ite_p rfl]
      rfl
    · unfold mX7_setSheet
      rw [q1.2 c1, cap_e, ite_p rfl]
      exact hb
  by_cases c2 : a2.toInt < 0 ∨ 200 < a2.toInt
  · refine s_thr_51 ?_ ?_ a4 a5
    · unfold mX6_setSheet
      rw [p1.1 (fun q => c1 (Or.inl q)) (fun q => c1 (Or.inr q)), cap_e, ite_n (by decide)]
      rw [p2.2 c2, cap_e, ite_p rfl]
      rfl
    · unfold mX7_setSheet
      rw [q1.1 (fun q => c1 (Or.inl q)) (fun q => c1 (Or.inr q)), cap_e, ite_n (by decide)]
      rw [q2.2 c2, cap_e, ite_p rfl]
      exact hb
  by_cases c3 : a3.toInt < 0 ∨ 100 < a3.toInt
  · refine s_thr_51 ?_ ?_ a4 a5
    · unfold mX6_setSheet
      rw [p1.1 (fun q => c1 (Or.inl q)) (fun q => c1 (Or.inr q)), cap_e, ite_n (by decide)]
      rw [p2.1 (fun q => c2 (Or.inl q)) (fun q => c2 (Or.inr q)), cap_e, ite_n (by decide)]
      rw [p3.2 c3, cap_e, ite_p rfl]
      rfl
    · unfold mX7_setSheet
      rw [q1.1 (fun q => c1 (Or.inl q)) (fun q => c1 (Or.inr q)), cap_e, ite_n (by decide)]
      rw [q2.1 (fun q => c2 (Or.inl q)) (fun q => c2 (Or.inr q)), cap_e, ite_n (by decide)]
      rw [q3.2 c3, cap_e, ite_p rfl]
      exact hb
  obtain ⟨A, B, hA, hB, hr⟩ := rem_s
  obtain ⟨r0, r1, r2, r3, r4, r5, r6, r7⟩ := rem_e hr
  refine s_ok_51 (M := (wr (wr (wr A 5 3 a1) 5 4 a2) 5 5 a3)) (N := wr (wr (wr B 136 36 a1) 136 37 a2) 136 38 a3) (v := rd A 5 3) ?_ ?_ ?_ a4 a5
  · unfold mX6_setSheet
    rw [p1.1 (fun q => c1 (Or.inl q)) (fun q => c1 (Or.inr q)), cap_e, ite_n (by decide)]
    rw [p2.1 (fun q => c2 (Or.inl q)) (fun q => c2 (Or.inr q)), cap_e, ite_n (by decide)]
    rw [p3.1 (fun q => c3 (Or.inl q)) (fun q => c3 (Or.inr q)), cap_e, ite_n (by decide)]
    rw [hA, cal_e, bnd_e]
    rfl
  · unfold mX7_setSheet
    rw [q1.1 (fun q => c1 (Or.inl q)) (fun q => c1 (Or.inr q)), cap_e, ite_n (by decide)]
    rw [q2.1 (fun q => c2 (Or.inl q)) (fun q => c2 (Or.inr q)), cap_e, ite_n (by decide)]
    rw [q3.1 (fun q => c3 (Or.inl q)) (fun q => c3 (Or.inr q)), cap_e, ite_n (by decide)]
    unfold mX7_setSheet_b42
    rw [z_good1, cal_e, ite_n (by decide)]
    unfold mX7_set
    rw [hB, cal_e, r1]
    rfl
  · exact r0
theorem cz_52 (a1 a2 a3 a4 a5 : Int32) : ∃ M' N', mlc_52 a1 a2 a3 a4 a5 MZ MZ = some (M', N') := by
  have p1 := al0 (w := 10) (x := a1) (M := MZ) (l := 0) (h := 99) rfl rfl (by decide) (by decide)
  have p2 := al1 (w := 10) (x := a2) (M := MZ) (h := 99) rfl (by decide)
  have p3 := al2 (w := 10) (x := a3) (M := MZ) (h := 99) rfl (by decide)
  have q1 := bl (x := a1) (lo := 0) (hi := 99) (l := 0) (h := 99) (M := MZ) (by decide) (by decide)
  have q2 := bl (x := a2) (lo := 0) (hi := 99) (l := 0) (h := 99) (M := MZ) (by decide) (by decide)
  have q3 := bl (x := a3) (lo := 0) (hi := 99) (l := 0) (h := 99) (M := MZ) (by decide) (by decide)
  have hb : mX7_setCost_b41 135 a1 a2 a3 MZ = some (ME, 0) := by
    unfold mX7_setCost_b41 mX7_setCost_b42
    rw [z_good, cal_e, ite_p rfl]
  by_cases c1 : a1.toInt < 0 ∨ 99 < a1.toInt
  · refine s_thr_52 ?_ ?_ a4 a5
    · unfold mX6_setCost
      rw [p1.2 c1, cap_e, ite_p rfl]
      rfl
    · unfold mX7_setCost
      rw [q1.2 c1, cap_e, ite_p rfl]
      exact hb
  by_cases c2 : a2.toInt < 0 ∨ 99 < a2.toInt
  · refine s_thr_52 ?_ ?_ a4 a5
    · unfold mX6_setCost
      rw [p1.1 (fun q => c1 (Or.inl q)) (fun q => c1 (Or.inr q)), cap_e, ite_n (by decide)]
      rw [p2.2 c2, cap_e, ite_p rfl]
      rfl
    · unfold mX7_setCost
      rw [q1.1 (fun q => c1 (Or.inl q)) (fun q => c1 (Or.inr q)), cap_e, ite_n (by decide)]
      rw [q2.2 c2, cap_e, ite_p rfl]
      exact hb
  by_cases c3 : a3.toInt < 0 ∨ 99 < a3.toInt
  · refine s_thr_52 ?_ ?_ a4 a5
    · unfold mX6_setCost
      rw [p1.1 (fun q => c1 (Or.inl q)) (fun q => c1 (Or.inr q)), cap_e, ite_n (by decide)]
      rw [p2.1 (fun q => c2 (Or.inl q)) (fun q => c2 (Or.inr q)), cap_e, ite_n (by decide)]
      rw [p3.2 c3, cap_e, ite_p rfl]
      rfl
    · unfold mX7_setCost
      rw [q1.1 (fun q => c1 (Or.inl q)) (fun q => c1 (Or.inr q)), cap_e, ite_n (by decide)]
      rw [q2.1 (fun q => c2 (Or.inl q)) (fun q => c2 (Or.inr q)), cap_e, ite_n (by decide)]
      rw [q3.2 c3, cap_e, ite_p rfl]
      exact hb
  obtain ⟨A, B, hA, hB, hr⟩ := rem_s
  obtain ⟨r0, r1, r2, r3, r4, r5, r6, r7⟩ := rem_e hr
  refine s_ok_52 (M := (wr (wr (wr A 5 7 a1) 5 8 a2) 5 9 a3)) (N := wr (wr (wr B 136 49 a1) 136 50 a2) 136 51 a3) (v := rd A 5 7) ?_ ?_ ?_ a4 a5
  · unfold mX6_setCost
    rw [p1.1 (fun q => c1 (Or.inl q)) (fun q => c1 (Or.inr q)), cap_e, ite_n (by decide)]
    rw [p2.1 (fun q => c2 (Or.inl q)) (fun q => c2 (Or.inr q)), cap_e, ite_n (by decide)]
    rw [p3.1 (fun q => c3 (Or.inl q)) (fun q => c3 (Or.inr q)), cap_e, ite_n (by decide)]
    rw [hA, cal_e, bnd_e]
    rfl
  · unfold mX7_setCost
    rw [q1.1 (fun q => c1 (Or.inl q)) (fun q => c1 (Or.inr q)), cap_e, ite_n (by decide)]
    rw [q2.1 (fun q => c2 (Or.inl q)) (fun q => c2 (Or.inr q)), cap_e, ite_n (by decide)]
    rw [q3.1 (fun q => c3 (Or.inl q)) (fun q => c3 (Or.inr q)), cap_e, ite_n (by decide)]
    unfold mX7_setCost_b42
    rw [z_good1, cal_e, ite_n (by decide)]
    unfold mX7_set
    rw [hB, cal_e, r2]
    rfl
  · exact r0
theorem cz_50_no {a1 : Int32} (hc : ¬ a1 = 0 ∧ ¬ a1 = 1 ∧ ¬ a1 = 2 ∧ ¬ a1 = 3 ∧ ¬ a1 = 4) (a2 a3 a4 a5 : Int32) : ∃ M' N', mlc_50 a1 a2 a3 a4 a5 MZ MZ = some (M', N') := by
  refine s_thr_50 ?_ ?_ a4 a5
  · unfold mX6_setTool
    rw [t_no hc, cap_e, opt_0]; rfl
  · have h : mX7_areTold a1 a2 a3 MZ = some 0 := by
      unfold mX7_areTold
      obtain ⟨r, hr⟩ := bt_ex a2.toInt64 0 9999 MZ
      rw [hr, cap_e, ite_n hc.1, ite_n hc.2.1, ite_n hc.2.2.1, ite_n hc.2.2.2.1, ite_n hc.2.2.2.2]
      unfold ite2
      split <;> rfl
    unfold mX7_setTool
    rw [h, cap_e, z_good, cal_e, ite_p rfl]
theorem s50_thr {i a2 a3 : Int32} {w : Nat} (h1 : mX5_ofTool i MZ = some (some w)) (hw : decide (w < 11) = true) (h : mX5_allows w 0 a2 MZ = some 0 ∨ (mX5_allows w 0 a2 MZ = some 1 ∧ mX5_allowsBehind w a2 1 a3 MZ = some 0)) : mX6_setTool 0 i a2 a3 MZ = some (MZ, .inr 0) := by
  unfold mX6_setTool
  rw [h1, cap_e, opt_e, chk_t hw]
  rcases h with h | ⟨h, h'⟩
  · rw [h, cap_e, ite_p rfl]; rfl
  · rw [h, cap_e, ite_n (by decide), h', cap_e, ite_p rfl]; rfl
theorem s50_ok {i a2 a3 : Int32} {w : Nat} {A : Mem} {n : Nat} (h1 : mX5_ofTool i MZ = some (some w)) (hw : decide (w < 11) = true) (h : mX5_allows w 0 a2 MZ = some 1) (h' : mX5_allowsBehind w a2 1 a3 MZ = some 1) (hA : mX0_remember 21 5 MZ = some (A, ()))
    (g0 : ¬ i < 0) (g5 : ¬ (5 : Int32) ≤ i) (ho : okb ((2 : Int32) * i) 10 = true) (ho2 : okb (((2 : Int32) * i) + (1 : Int32)) 10 = true) (e1 : ((2 : Int32) * i).toNatClampNeg = n) (e2 : (((2 : Int32) * i) + (1 : Int32)).toNatClampNeg = n + 1) : mX6_setTool 0 i a2 a3 MZ = some (wr (wr A 7 n a2) 7 (n + 1) a3, .inl (rd A 7 n)) := by
  unfold mX6_setTool
  rw [h1, cap_e, opt_e, chk_t hw, h, cap_e, ite_n (by decide), h', cap_e, ite_n (by decide), hA, cal_e, chk_t ho, bnd_e, e1, i_putTool 5 i a2 a3 A n g0 g5 ho ho2 e1 e2, cal_e]
theorem s50_mt {i a2 a3 : Int32} (h : mX7_areTold i a2 a3 MZ = some 0) : mX7_setTool 135 i a2 a3 MZ = some (ME, 0) := by
  unfold mX7_setTool
  rw [h, cap_e, z_good, cal_e, ite_p rfl]
theorem s50_mo {i a2 a3 : Int32} {B : Mem} {n : Nat} (h : mX7_areTold i a2 a3 MZ = some 1) (hB : mX7_remember 135 MF = some (B, ())) (ho : okb ((39 : Int32) + ((2 : Int32) * i)) 86 = true) (ho2 : okb (((39 : Int32) + ((2 : Int32) * i)) + (1 : Int32)) 86 = true) (e1 : ((39 : Int32) + ((2 : Int32) * i)).toNatClampNeg = n) (e2 : (((39 : Int32) + ((2 : Int32) * i)) + (1 : Int32)).toNatClampNeg = n + 1) : mX7_setTool 135 i a2 a3 MZ = some (wr (wr B 136 n a2) 136 (n + 1) a3, rd B 136 n) := by
  unfold mX7_setTool
  rw [h, cap_e, z_good1, cal_e, ite_n (by decide)]
  unfold mX7_set
  rw [hB, cal_e, chk_t ho, bnd_e, chk_t ho, bnd_e, e1, e2, cal_e, chk_t ho2, bnd_e]
theorem cz_50_0 (a2 a3 a4 a5 : Int32) : ∃ M' N', mlc_50 0 a2 a3 a4 a5 MZ MZ = some (M', N') := by
  have p1 := al0 (w := 5) (x := a2) (M := MZ) (l := 0) (h := 9999) rfl rfl (by decide) (by decide)
  have p2 := al1 (w := 5) (x := a3) (M := MZ) (h := 9999) rfl (by decide)
  have q1 := bl (x := a2) (lo := 0) (hi := 9999) (l := 0) (h := 9999) (M := MZ) (by decide) (by decide)
  have o1 : mX5_ofTool 0 MZ = some (some 5) := rfl
  have told : ∀ {y : Option Int32}, mX7_between a2.toInt64 0 9999 MZ = some 1 → mX7_areTold_b48 MZ a3 = y → mX7_areTold 0 a2 a3 MZ = y := by
    intro y h1 h2
    unfold mX7_areTold
    rw [h1, ← h2, cap_e, ite_n (by decide)]
    rfl
  have q2 := bl (x := a3) (lo := 0) (hi := 9999) (l := 0) (h := 9999) (M := MZ) (by decide) (by decide)
  by_cases c1 : a2.toInt < 0 ∨ 9999 < a2.toInt
  · refine s_thr_50 (s50_thr o1 (by decide) (Or.inl (p1.2 c1))) (s50_mt ?_) a4 a5
    unfold mX7_areTold
    rw [q1.2 c1, cap_e, ite_p rfl]
  · have u1 := p1.1 (fun q => c1 (Or.inl q)) (fun q => c1 (Or.inr q))
    have u2 := q1.1 (fun q => c1 (Or.inl q)) (fun q => c1 (Or.inr q))
    by_cases c2 : a3.toInt < 0 ∨ 9999 < a3.toInt
    · refine s_thr_50 (s50_thr o1 (by decide) (Or.inr ⟨u1, ?_⟩)) (s50_mt (told u2 ?_)) a4 a5
      · exact by unfold mX5_allowsBehind; rw [p2.2 c2, cap_e, ite_p rfl]
      · exact by unfold mX7_areTold_b48; rw [q2.2 c2, cap_e, chk_t (by decide)]
    · obtain ⟨A, B, hA, hB, hr⟩ := rem_s
      obtain ⟨r0, r1, r2, r3, r4, r5, r6, r7⟩ := rem_e hr
      have w1 : mX5_allowsBehind 5 a2 1 a3 MZ = some 1 := by unfold mX5_allowsBehind; rw [p2.1 (fun q => c2 (Or.inl q)) (fun q => c2 (Or.inr q)), cap_e, ite_n (by decide)]; rfl
      have w2 : mX7_areTold 0 a2 a3 MZ = some 1 := told u2 (by unfold mX7_areTold_b48; rw [q2.1 (fun q => c2 (Or.inl q)) (fun q => c2 (Or.inr q)), cap_e, chk_t (by decide)])
      have f1 := s50_ok (n := 0) o1 (by decide) u1 w1 hA (by decide) (by decide) (by decide) (by decide) (by decide) (by decide)
      have f2 := s50_mo (n := 39) w2 hB (by decide) (by decide) (by decide) (by decide)
      rw [← r3] at f2
      exact s_ok_50 f1 f2 r0 a4 a5
theorem cz_50_1 (a2 a3 a4 a5 : Int32) : ∃ M' N', mlc_50 1 a2 a3 a4 a5 MZ MZ = some (M', N') := by
  have p1 := al0 (w := 6) (x := a2) (M := MZ) (l := 0) (h := 9999) rfl rfl (by decide) (by decide)
  have p2 := al1 (w := 6) (x := a3) (M := MZ) (h := 9999) rfl (by decide)
  have q1 := bl (x := a2) (lo := 0) (hi := 9999) (l := 0) (h := 9999) (M := MZ) (by decide) (by decide)
  have o1 : mX5_ofTool 1 MZ = some (some 6) := rfl
  have told : ∀ {y : Option Int32}, mX7_between a2.toInt64 0 9999 MZ = some 1 → mX7_areTold_b48 MZ a3 = y → mX7_areTold 1 a2 a3 MZ = y := by
    intro y h1 h2
    unfold mX7_areTold
    rw [h1, ← h2, cap_e, ite_n (by decide)]
    rfl
  have q2 := bl (x := a3) (lo := 0) (hi := 9999) (l := 0) (h := 9999) (M := MZ) (by decide) (by decide)
  by_cases c1 : a2.toInt < 0 ∨ 9999 < a2.toInt
  · refine s_thr_50 (s50_thr o1 (by decide) (Or.inl (p1.2 c1))) (s50_mt ?_) a4 a5
    unfold mX7_areTold
    rw [q1.2 c1, cap_e, ite_p rfl]
  · have u1 := p1.1 (fun q => c1 (Or.inl q)) (fun q => c1 (Or.inr q))
    have u2 := q1.1 (fun q => c1 (Or.inl q)) (fun q => c1 (Or.inr q))
    by_cases c2 : a3.toInt < 0 ∨ 9999 < a3.toInt
    · refine s_thr_50 (s50_thr o1 (by decide) (Or.inr ⟨u1, ?_⟩)) (s50_mt (told u2 ?_)) a4 a5
      · exact by unfold mX5_allowsBehind; rw [p2.2 c2, cap_e, ite_p rfl]
      · exact by unfold mX7_areTold_b48; rw [q2.2 c2, cap_e, chk_t (by decide)]
    · obtain ⟨A, B, hA, hB, hr⟩ := rem_s
      obtain ⟨r0, r1, r2, r3, r4, r5, r6, r7⟩ := rem_e hr
      have w1 : mX5_allowsBehind 6 a2 1 a3 MZ = some 1 := by unfold mX5_allowsBehind; rw [p2.1 (fun q => c2 (Or.inl q)) (fun q => c2 (Or.inr q)), cap_e, ite_n (by decide)]; rfl
      have w2 : mX7_areTold 1 a2 a3 MZ = some 1 := told u2 (by unfold mX7_areTold_b48; rw [q2.1 (fun q => c2 (Or.inl q)) (fun q => c2 (Or.inr q)), cap_e, chk_t (by decide)])
      have f1 := s50_ok (n := 2) o1 (by decide) u1 w1 hA (by decide) (by decide) (by decide) (by decide) (by decide) (by decide)
      have f2 := s50_mo (n := 41) w2 hB (by decide) (by decide) (by decide) (by decide)
      rw [← r4] at f2
      exact s_ok_50 f1 f2 r0 a4 a5
theorem cz_50_2 (a2 a3 a4 a5 : Int32) : ∃ M' N', mlc_50 2 a2 a3 a4 a5 MZ MZ = some (M', N') := by
  have p1 := al0 (w := 7) (x := a2) (M := MZ) (l := 0) (h := 9999) rfl rfl (by decide) (by decide)
  have p2 := al1 (w := 7) (x := a3) (M := MZ) (h := 9999) rfl (by decide)
  have q1 := bl (x := a2) (lo := 0) (hi := 9999) (l := 0) (h := 9999) (M := MZ) (by decide) (by decide)
  have o1 : mX5_ofTool 2 MZ = some (some 7) := rfl
  have told : ∀ {y : Option Int32}, mX7_between a2.toInt64 0 9999 MZ = some 1 → mX7_areTold_b48 MZ a3 = y → mX7_areTold 2 a2 a3 MZ = y := by
    intro y h1 h2
    unfold mX7_areTold
    rw [h1, ← h2, cap_e, ite_n (by decide)]
    rfl
  have q2 := bl (x := a3) (lo := 0) (hi := 9999) (l := 0) (h := 9999) (M := MZ) (by decide) (by decide)
  by_cases c1 : a2.toInt < 0 ∨ 9999 < a2.toInt
  · refine s_thr_50 (s50_thr o1 (by decide) (Or.inl (p1.2 c1))) (s50_mt ?_) a4 a5
    unfold mX7_areTold
    rw [q1.2 c1, cap_e, ite_p rfl]
  · have u1 := p1.1 (fun q => c1 (Or.inl q)) (fun q => c1 (Or.inr q))
    have u2 := q1.1 (fun q => c1 (Or.inl q)) (fun q => c1 (Or.inr q))
    by_cases c2 : a3.toInt < 0 ∨ 9999 < a3.toInt
    · refine s_thr_50 (s50_thr o1 (by decide) (Or.inr ⟨u1, ?_⟩)) (s50_mt (told u2 ?_)) a4 a5
      · exact by unfold mX5_allowsBehind; rw [p2.2 c2, cap_e, ite_p rfl]
      · exact by unfold mX7_areTold_b48; rw [q2.2 c2, cap_e, chk_t (by decide)]
    · obtain ⟨A, B, hA, hB, hr⟩ := rem_s
      obtain ⟨r0, r1, r2, r3, r4, r5, r6, r7⟩ := rem_e hr
      have w1 : mX5_allowsBehind 7 a2 1 a3 MZ = some 1 := by unfold mX5_allowsBehind; rw [p2.1 (fun q => c2 (Or.inl q)) (fun q => c2 (Or.inr q)), cap_e, ite_n (by decide)]; rfl
      have w2 : mX7_areTold 2 a2 a3 MZ = some 1 := told u2 (by unfold mX7_areTold_b48; rw [q2.1 (fun q => c2 (Or.inl q)) (fun q => c2 (Or.inr q)), cap_e, chk_t (by decide)])
      have f1 := s50_ok (n := 4) o1 (by decide) u1 w1 hA (by decide) (by decide) (by decide) (by decide) (by decide) (by decide)
      have f2 := s50_mo (n := 43) w2 hB (by decide) (by decide) (by decide) (by decide)
      rw [← r5] at f2
      exact s_ok_50 f1 f2 r0 a4 a5
theorem cz_50_3 (a2 a3 a4 a5 : Int32) : ∃ M' N', mlc_50 3 a2 a3 a4 a5 MZ MZ = some (M', N') := by
  have p1 := al0 (w := 8) (x := a2) (M := MZ) (l := 0) (h := 9999) rfl rfl (by decide) (by decide)
  have p2 := al1 (w := 8) (x := a3) (M := MZ) (h := 9999) rfl (by decide)
  have q1 := bl (x := a2) (lo := 0) (hi := 9999) (l := 0) (h := 9999) (M := MZ) (by decide) (by decide)
  have o1 : mX5_ofTool 3 MZ = some (some 8) := rfl
  have told : ∀ {y : Option Int32}, mX7_between a2.toInt64 0 9999 MZ = some 1 → (cap (mX7_between a3.toInt64 a2.toInt64 9999 MZ) (fun r14 => chk (isB r14) (some r14))) = y → mX7_areTold 3 a2 a3 MZ = y := by
    intro y h1 h2
    unfold mX7_areTold
    rw [h1, ← h2, cap_e, ite_n (by decide)]
    rfl
  by_cases c1 : a2.toInt < 0 ∨ 9999 < a2.toInt
  · refine s_thr_50 (s50_thr o1 (by decide) (Or.inl (p1.2 c1))) (s50_mt ?_) a4 a5
    unfold mX7_areTold
    rw [q1.2 c1, cap_e, ite_p rfl]
  · have u1 := p1.1 (fun q => c1 (Or.inl q)) (fun q => c1 (Or.inr q))
    have u2 := q1.1 (fun q => c1 (Or.inl q)) (fun q => c1 (Or.inr q))
    by_cases c2 : a3.toInt < a2.toInt ∨ 9999 < a3.toInt
    · refine s_thr_50 (s50_thr o1 (by decide) (Or.inr ⟨u1, ?_⟩)) (s50_mt (told u2 ?_)) a4 a5
      · exact by
            unfold mX5_allowsBehind ite2
            by_cases d : a3.toInt < 0 ∨ 9999 < a3.toInt
            · rw [p2.2 d]; rfl
            · rw [p2.1 (fun q => d (Or.inl q)) (fun q => d (Or.inr q))]
              rw [cap_e, if_neg (by decide), if_pos rfl, if_pos (by rw [Int32.lt_iff_toInt_lt]; omega)]
      · exact by rw [bt_0 (by rw [Int64.lt_iff_toInt_lt, Int32.toInt_toInt64, Int32.toInt_toInt64, tK (v := 9999) (by decide)]; exact c2)]; rfl
    · obtain ⟨A, B, hA, hB, hr⟩ := rem_s
      obtain ⟨r0, r1, r2, r3, r4, r5, r6, r7⟩ := rem_e hr
      have w1 : mX5_allowsBehind 8 a2 1 a3 MZ = some 1 := by
        unfold mX5_allowsBehind ite2
        rw [p2.1 (by omega) (by omega)]
        rw [cap_e, if_neg (by decide), if_pos rfl, if_neg (by rw [Int32.lt_iff_toInt_lt]; omega)]; rfl
      have w2 : mX7_areTold 3 a2 a3 MZ = some 1 := told u2 (by rw [bt_1 (by rw [Int64.lt_iff_toInt_lt, Int32.toInt_toInt64, Int32.toInt_toInt64]; omega) (by rw [tK (v := 9999) (by decide)]; omega)]; rfl)
      have f1 := s50_ok (n := 6) o1 (by decide) u1 w1 hA (by decide) (by decide) (by decide) (by decide) (by decide) (by decide)
      have f2 := s50_mo (n := 45) w2 hB (by decide) (by decide) (by decide) (by decide)
      rw [← r6] at f2
      exact s_ok_50 f1 f2 r0 a4 a5
theorem cz_50_4 (a2 a3 a4 a5 : Int32) : ∃ M' N', mlc_50 4 a2 a3 a4 a5 MZ MZ = some (M', N') := by
  have p1 := al0 (w := 9) (x := a2) (M := MZ) (l := 0) (h := 9999) rfl rfl (by decide) (by decide)
  have p2 := al1 (w := 9) (x := a3) (M := MZ) (h := 0) rfl (by decide)
  have q1 := bl (x := a2) (lo := 0) (hi := 9999) (l := 0) (h := 9999) (M := MZ) (by decide) (by decide)
  have o1 : mX5_ofTool 4 MZ = some (some 9) := rfl
  have told : ∀ {y : Option Int32}, mX7_between a2.toInt64 0 9999 MZ = some 1 → (if a3 = 0 then some (1 : Int32) else some 0) = y → mX7_areTold 4 a2 a3 MZ = y := by
    intro y h1 h2
    unfold mX7_areTold
    rw [h1, ← h2, cap_e, ite_n (by decide)]
    rfl
  by_cases c1 : a2.toInt < 0 ∨ 9999 < a2.toInt
  · refine s_thr_50 (s50_thr o1 (by decide) (Or.inl (p1.2 c1))) (s50_mt ?_) a4 a5
    unfold mX7_areTold
    rw [q1.2 c1, cap_e, ite_p rfl]
  · have u1 := p1.1 (fun q => c1 (Or.inl q)) (fun q => c1 (Or.inr q))
    have u2 := q1.1 (fun q => c1 (Or.inl q)) (fun q => c1 (Or.inr q))
    by_cases c2 : a3.toInt < 0 ∨ 0 < a3.toInt
    · refine s_thr_50 (s50_thr o1 (by decide) (Or.inr ⟨u1, ?_⟩)) (s50_mt (told u2 ?_)) a4 a5
      · exact by unfold mX5_allowsBehind; rw [p2.2 c2, cap_e, ite_p rfl]
      · exact by rw [if_neg (fun q => by rw [q, show (0 : Int32).toInt = 0 by decide] at c2; omega)]
    · obtain ⟨A, B, hA, hB, hr⟩ := rem_s
      obtain ⟨r0, r1, r2, r3, r4, r5, r6, r7⟩ := rem_e hr
      have w1 : mX5_allowsBehind 9 a2 1 a3 MZ = some 1 := by unfold mX5_allowsBehind; rw [p2.1 (fun q => c2 (Or.inl q)) (fun q => c2 (Or.inr q)), cap_e, ite_n (by decide)]; rfl
      have w2 : mX7_areTold 4 a2 a3 MZ = some 1 := told u2 (by rw [if_pos (Int32.toInt_inj.mp (by rw [show (0 : Int32).toInt = 0 by decide]; omega))])
      have f1 := s50_ok (n := 8) o1 (by decide) u1 w1 hA (by decide) (by decide) (by decide) (by decide) (by decide) (by decide)
      have f2 := s50_mo (n := 47) w2 hB (by decide) (by decide) (by decide) (by decide)
      rw [← r7] at f2
      exact s_ok_50 f1 f2 r0 a4 a5
theorem cz_50 (a1 a2 a3 a4 a5 : Int32) : ∃ M' N', mlc_50 a1 a2 a3 a4 a5 MZ MZ = some (M', N') := by
  by_cases c0 : a1 = 0
  · subst c0; exact cz_50_0 a2 a3 a4 a5
  by_cases c1 : a1 = 1
  · subst c1; exact cz_50_1 a2 a3 a4 a5
  by_cases c2 : a1 = 2
  · subst c2; exact cz_50_2 a2 a3 a4 a5
  by_cases c3 : a1 = 3
  · subst c3; exact cz_50_3 a2 a3 a4 a5
  by_cases c4 : a1 = 4
  · subst c4; exact cz_50_4 a2 a3 a4 a5
  exact cz_50_no ⟨c0, c1, c2, c3, c4⟩ a2 a3 a4 a5
