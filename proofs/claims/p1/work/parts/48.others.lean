/-! calls whose parameters matter -/
def MF : Mem := wr MZ 135 5 0
theorem z_th0 : mX7_thrown 135 MF = some 0 := rfl
theorem z_good1 : mX7_good 135 1 MZ = some (MF, 1) := rfl
theorem tI {a k : Int32} {v : Int} (h : k.toInt = v) : a < k ↔ a.toInt < v := by rw [Int32.lt_iff_toInt_lt, h]
theorem tJ {a k : Int32} {v : Int} (h : k.toInt = v) : k < a ↔ v < a.toInt := by rw [Int32.lt_iff_toInt_lt, h]
theorem tL {a : Int32} {k : Int64} {v : Int} (h : k.toInt = v) : a.toInt64 < k ↔ a.toInt < v := by rw [Int64.lt_iff_toInt_lt, h, Int32.toInt_toInt64]
theorem tK {a : Int32} {k : Int64} {v : Int} (h : k.toInt = v) : k < a.toInt64 ↔ v < a.toInt := by rw [Int64.lt_iff_toInt_lt, h, Int32.toInt_toInt64]
/-! refused -/
theorem zr_31 {a1 : Int32} (h : ¬ a1 < 1) (h2 : ¬ 6 < a1) : mL_refused 0 152 a1 MZ = some (wl MZ 152 0 0, .inl 0) := by
  have h3 : a1 ≤ 6 := by rw [Int32.le_iff_toInt_le]; rw [Int32.lt_iff_toInt_lt] at h2; omega
  have h4 : mX6_refused_l25 0 5000 a1 0 0 MZ = some (MZ, .inl 0) := by
    show mX6_refused_b25 0 (mX6_refused_l25 0 4999) a1 0 0 MZ = _
    unfold mX6_refused_b25
    rw [z_cnt, cap_e, ite_p (by decide)]
  unfold mL_refused mX6_refused
  rw [ite_n h, ite_p h3, h4, calt_i, chk_t (by decide), bnd_e]
  rfl
theorem cz_31 (a1 a2 a3 a4 a5 : Int32) : ∃ M' N', mlc_31 a1 a2 a3 a4 a5 MZ MZ = some (M', N') := by
  by_cases h : a1 < 1 ∨ 6 < a1
  · have e1 : mL_refused 0 152 a1 MZ = some (MZ, .inl 1) := by
      unfold mL_refused mX6_refused
      rcases h with h | h
      · rw [ite_p h]; rfl
      · rw [ite_n (by rw [tI (v := 1) (by decide)]; rw [tJ (v := 6) (by decide)] at h; omega), ite_n (by rw [Int32.le_iff_toInt_le]; rw [Int32.lt_iff_toInt_lt] at h; omega)]; rfl
    have e2 : mX7_refused 135 a1 MZ = some (ME, 0) := by
      have hb : a1.toInt64 < 1 ∨ 6 < a1.toInt64 := by
        rw [tL (v := 1) (by decide), tK (v := 6) (by decide)]
        rw [tI (v := 1) (by decide), tJ (v := 6) (by decide)] at h
        exact h
      unfold mX7_refused
      rw [bt_0 hb, cap_e, z_good, cal_e, ite_p rfl]
    refine ⟨MZ, ME, ?_⟩
    unfold mlc_31
    rw [e1, calh_e, e2, cal_e, z_th, cap_e, ite_p rfl, ite_n (by decide)]
  · have ha : ¬ a1 < 1 := fun q => h (Or.inl q)
    have hb : ¬ 6 < a1 := fun q => h (Or.inr q)
    have e2 : mX7_refused 135 a1 MZ = some (MF, 0) := by
      have h4 : mX7_refused_l22 135 5000 a1 0 0 MF = some (MF, 0) := by
        show mX7_refused_b22 135 (mX7_refused_l22 135 4999) a1 0 0 MF = _
        unfold mX7_refused_b22
        rw [chk_t (by decide), ite_p (by decide +kernel)]
      unfold mX7_refused
      rw [bt_1 (by rw [tL (v := 1) (by decide)]; rw [tI (v := 1) (by decide)] at ha; exact ha) (by rw [tK (v := 6) (by decide)]; rw [tJ (v := 6) (by decide)] at hb; exact hb), cap_e, z_good1, cal_e, ite_n (by decide), h4]
    refine ⟨wl MZ 152 0 0, MF, ?_⟩
    unfold mlc_31
    rw [zr_31 ha hb, calh_e, e2, cal_e, z_th0, cap_e, ite_p rfl, ite_p rfl, chk_t (by decide), ite_p (by decide +kernel)]
/-! load -/
theorem ck_1 : (mlc_1 0 0 0 0 0 MZ MZ).isSome = true := by decide +kernel
theorem cz_1 (a1 a2 a3 a4 a5 : Int32) : ∃ M' N', mlc_1 a1 a2 a3 a4 a5 MZ MZ = some (M', N') := by
  by_cases h : a1 = 0
  · subst h
    have h := ck_1
    unfold mlc_1 at h ⊢
    exact ex_s h
  · have hn : a1.toInt ≠ 0 := fun q => h (Int32.toInt_inj.mp q)
    have e1 : mL_load 0 152 a1 MZ = some (MZ, .inl 1) := by
      have h0 : rd MZ 0 1 = 0 := rfl
      unfold mL_load mX6_load
      by_cases c : a1 < 0
      · rw [ite_p c]; rfl
      · have hl : ¬ a1 ≤ 0 := by
          rw [Int32.le_iff_toInt_le, show (0 : Int32).toInt = 0 by decide]
          rw [tI (v := 0) (by decide)] at c
          omega
        rw [ite_n c, h0, ite_n hl]; rfl
    have e2 : mX7_load 135 a1 MZ = some (ME, 0) := by
      have h0 : (rd MZ 135 7).toInt64 = 0 := by decide +kernel
      unfold mX7_load
      rw [h0, bt_0 (by rw [tL (v := 0) (by decide), tK (v := 0) (by decide)]; omega), cap_e, ite_p rfl]
      unfold mX7_load_b20
      rw [bnd_e, ite_n (by decide +kernel)]
      rfl
    refine ⟨MZ, ME, ?_⟩
    unfold mlc_1
    rw [e1, calh_e, e2, cal_e, z_th, cap_e, ite_p rfl, ite_n (by decide)]
/-! springBackFor -/
theorem cz_13 (a1 a2 a3 a4 a5 : Int32) : ∃ M' N', mlc_13 a1 a2 a3 a4 a5 MZ MZ = some (M', N') := by
  have hn := fm_eighth a1
  unfold mlc_13
  generalize FP.dmul (FP.i2d a1) (4593671619917905920 : UInt64) = x at hn ⊢
  rw [chk_t hn]
  by_cases c1 : (Op.cmpValue (FP.dcmp x FP.dconst0) CmpOp.l) < 0
  · have e1 : mL_springBackFor 0 153 x MZ = some (MZ, .inl 1) := by
      unfold mL_springBackFor mX6_springBackFor
      rw [ite_p c1]; rfl
    have e2 : mX7_springBackFor 135 x MZ = some (ME, FP.dconst0) := by
      unfold mX7_springBackFor
      rw [ite_p c1]
      unfold mX7_springBackFor_b19 mX7_springBackFor_b20
      rw [z_good, cal_e, ite_p rfl]
    refine ⟨MZ, ME, ?_⟩
    rw [e1, calh_e, chk_t hn, e2, cal_e, z_th, cap_e, ite_p rfl, ite_n (by decide)]
  · by_cases c2 : 0 < (Op.cmpValue (FP.dcmp x (4666722622711529472 : UInt64)) CmpOp.g)
    · have e1 : mL_springBackFor 0 153 x MZ = some (MZ, .inl 1) := by
        unfold mL_springBackFor mX6_springBackFor
        rw [ite_n c1, ite_p c2]; rfl
      have e2 : mX7_springBackFor 135 x MZ = some (ME, FP.dconst0) := by
        unfold mX7_springBackFor
        rw [ite_n c1, ite_p c2]
        unfold mX7_springBackFor_b19 mX7_springBackFor_b20
        rw [z_good, cal_e, ite_p rfl]
      refine ⟨MZ, ME, ?_⟩
      rw [e1, calh_e, chk_t hn, e2, cal_e, z_th, cap_e, ite_p rfl, ite_n (by decide)]
    · have s1 : mX1_springBackAt 5 x MZ = some FP.dconst0 := by
        unfold mX1_springBackAt
        rw [ite_p (show rd MZ 5 10 = 0 from rfl)]
      have e1 : mL_springBackFor 0 153 x MZ = some (wd MZ 153 0 FP.dconst0, .inl 0) := by
        unfold mL_springBackFor mX6_springBackFor mX6_springBackFor_b19
        rw [ite_n c1, ite_n c2, ite_n (by decide), s1, cap_e, calt_i, chk_t (by decide), bnd_e]
        rfl
      have s2 : mX7_springBy 135 x MF = some FP.dconst0 := by
        unfold mX7_springBy
        rw [chk_t (by decide), bnd_e, ite_p (by decide +kernel)]
      have e2 : mX7_springBackFor 135 x MZ = some (MF, FP.dconst0) := by
        unfold mX7_springBackFor
        rw [ite_n c1, ite_n c2]
        unfold mX7_springBackFor_b20
        rw [z_good1, cal_e, ite_n (by decide), s2, cap_e]
      refine ⟨wd MZ 153 0 FP.dconst0, MF, ?_⟩
      rw [e1, calh_e, chk_t hn, e2, cal_e, z_th0, cap_e, ite_p rfl, ite_p rfl, chk_t (by decide), ite_p (by decide +kernel)]
/-! tool -/
theorem t_thr {a1 a2 : Int32} (h : mX6_tool 0 a1 a2 MZ = some (MZ, .inr 0)) (hm : mX7_isTool a1 a2 MZ = some 0) (a3 a4 a5 : Int32) : ∃ M' N', mlc_15 a1 a2 a3 a4 a5 MZ MZ = some (M', N') := by
  have e1 : mL_tool 0 152 a1 a2 MZ = some (MZ, .inl 1) := by
    unfold mL_tool
    rw [h]; rfl
  have e2 : mX7_tool 135 a1 a2 MZ = some (ME, 0) := by
    unfold mX7_tool
    rw [hm, cap_e, z_good, cal_e, ite_p rfl]
  refine ⟨MZ, ME, ?_⟩
  unfold mlc_15
  rw [e1, calh_e, e2, cal_e, z_th, cap_e, ite_p rfl, ite_n (by decide)]
theorem opt_e {β : Type} (w : Nat) (a : Option β) (b : Nat → Option β) : opt (some w) a b = b w := rfl
theorem opt_0 {β : Type} (a : Option β) (b : Nat → Option β) : opt none a b = a := rfl
theorem t_of {i a2 : Int32} {w : Nat} {n : Int32} (h1 : mX5_ofTool i MZ = some (some w)) (hw : decide (w < 11) = true) (h2 : mX5_numberCount w MZ = some n) (hc : a2 < 0 ∨ ¬ a2 < n) : mX6_tool 0 i a2 MZ = some (MZ, .inr 0) := by
  unfold mX6_tool
  rw [h1, cap_e, opt_e, chk_t hw]
  by_cases c : a2 < 0
  · rw [ite_p c]; rfl
  · rw [ite_n c, h2, cap_e, ite_n (hc.resolve_left c)]; rfl
theorem t_no {a : Int32} (h : ¬ a = 0 ∧ ¬ a = 1 ∧ ¬ a = 2 ∧ ¬ a = 3 ∧ ¬ a = 4) : mX5_ofTool a MZ = some none := by
  unfold mX5_ofTool ite2
  rw [if_neg h.1, if_neg h.2.1, if_neg h.2.2.1, if_neg h.2.2.2.1, if_neg h.2.2.2.2]
theorem t_rg {a : Int32} (h : ¬ a = 0 ∧ ¬ a = 1 ∧ ¬ a = 2 ∧ ¬ a = 3 ∧ ¬ a = 4) : a.toInt < 0 ∨ 4 < a.toInt := by
  obtain ⟨h0, h1, h2, h3, h4⟩ := h
  have n : ∀ k : Int32, ¬ a = k → a.toInt ≠ k.toInt := fun k hk q => hk (Int32.toInt_inj.mp q)
  have n0 := n 0 h0
  have n1 := n 1 h1
  have n2 := n 2 h2
  have n3 := n 3 h3
  have n4 := n 4 h4
  rw [show (0 : Int32).toInt = 0 by decide] at n0
  rw [show (1 : Int32).toInt = 1 by decide] at n1
  rw [show (2 : Int32).toInt = 2 by decide] at n2
  rw [show (3 : Int32).toInt = 3 by decide] at n3
  rw [show (4 : Int32).toInt = 4 by decide] at n4
  omega
theorem ck_15_0_0 : (mlc_15 0 0 0 0 0 MZ MZ).isSome = true := by decide +kernel
theorem ck_15_0_1 : (mlc_15 0 1 0 0 0 MZ MZ).isSome = true := by decide +kernel
theorem cz_15_0 (a2 a3 a4 a5 : Int32) : ∃ M' N', mlc_15 0 a2 a3 a4 a5 MZ MZ = some (M', N') := by
  by_cases c0 : a2 = 0
  · subst c0
    have h := ck_15_0_0
    unfold mlc_15 at h ⊢
    exact ex_s h
  by_cases c1 : a2 = 1
  · subst c1
    have h := ck_15_0_1
    unfold mlc_15 at h ⊢
    exact ex_s h
  have n : ∀ k : Int32, ¬ a2 = k → a2.toInt ≠ k.toInt := fun k hk q => hk (Int32.toInt_inj.mp q)
  have n0 := n 0 c0
  rw [show (0 : Int32).toInt = 0 by decide] at n0
  have n1 := n 1 c1
  rw [show (1 : Int32).toInt = 1 by decide] at n1
  refine t_thr (t_of (n := 2) rfl (by decide) rfl ?_) ?_ a3 a4 a5
  · rw [tI (v := 0) (by decide), tI (v := 2) (by decide)]; omega
  · have hb : mX7_between a2.toInt64 0 1 MZ = some 0 := bt_0 (by rw [tL (v := 0) (by decide), tK (v := 1) (by decide)]; omega)
    unfold mX7_isTool
    rw [show ∀ M, mX7_between (0 : Int32).toInt64 (0 : Int64) (4 : Int64) M = some 1 from fun _ => bt_1 (by decide) (by decide), cap_e, ite_n (by decide)]
    first | rw [ite_p (by decide)] | rw [ite_n (by decide)]
    unfold mX7_isTool_b25
    rw [hb, cap_e, ite_p rfl]
theorem ck_15_1_0 : (mlc_15 1 0 0 0 0 MZ MZ).isSome = true := by decide +kernel
theorem ck_15_1_1 : (mlc_15 1 1 0 0 0 MZ MZ).isSome = true := by decide +kernel
theorem cz_15_1 (a2 a3 a4 a5 : Int32) : ∃ M' N', mlc_15 1 a2 a3 a4 a5 MZ MZ = some (M', N') := by
  by_cases c0 : a2 = 0
  · subst c0
    have h := ck_15_1_0
    unfold mlc_15 at h ⊢
    exact ex_s h
  by_cases c1 : a2 = 1
  · subst c1
    have h := ck_15_1_1
    unfold mlc_15 at h ⊢
    exact ex_s h
  have n : ∀ k : Int32, ¬ a2 = k → a2.toInt ≠ k.toInt := fun k hk q => hk (Int32.toInt_inj.mp q)
  have n0 := n 0 c0
  rw [show (0 : Int32).toInt = 0 by decide] at n0
  have n1 := n 1 c1
  rw [show (1 : Int32).toInt = 1 by decide] at n1
  refine t_thr (t_of (n := 2) rfl (by decide) rfl ?_) ?_ a3 a4 a5
  · rw [tI (v := 0) (by decide), tI (v := 2) (by decide)]; omega
  · have hb : mX7_between a2.toInt64 0 1 MZ = some 0 := bt_0 (by rw [tL (v := 0) (by decide), tK (v := 1) (by decide)]; omega)
    unfold mX7_isTool
    rw [show ∀ M, mX7_between (1 : Int32).toInt64 (0 : Int64) (4 : Int64) M = some 1 from fun _ => bt_1 (by decide) (by decide), cap_e, ite_n (by decide)]
    first | rw [ite_p (by decide)] | rw [ite_n (by decide)]
    unfold mX7_isTool_b25
    rw [hb, cap_e, ite_p rfl]
theorem ck_15_2_0 : (mlc_15 2 0 0 0 0 MZ MZ).isSome = true := by decide +kernel
theorem ck_15_2_1 : (mlc_15 2 1 0 0 0 MZ MZ).isSome = true := by decide +kernel
theorem cz_15_2 (a2 a3 a4 a5 : Int32) : ∃ M' N', mlc_15 2 a2 a3 a4 a5 MZ MZ = some (M', N') := by
  by_cases c0 : a2 = 0
  · subst c0
    have h := ck_15_2_0
    unfold mlc_15 at h ⊢
    exact ex_s h
  by_cases c1 : a2 = 1
  · subst c1
    have h := ck_15_2_1
    unfold mlc_15 at h ⊢
    exact ex_s h
  have n : ∀ k : Int32, ¬ a2 = k → a2.toInt ≠ k.toInt := fun k hk q => hk (Int32.toInt_inj.mp q)
  have n0 := n 0 c0
  rw [show (0 : Int32).toInt = 0 by decide] at n0
  have n1 := n 1 c1
  rw [show (1 : Int32).toInt = 1 by decide] at n1
  refine t_thr (t_of (n := 2) rfl (by decide) rfl ?_) ?_ a3 a4 a5
  · rw [tI (v := 0) (by decide), tI (v := 2) (by decide)]; omega
  · have hb : mX7_between a2.toInt64 0 1 MZ = some 0 := bt_0 (by rw [tL (v := 0) (by decide), tK (v := 1) (by decide)]; omega)
    unfold mX7_isTool
    rw [show ∀ M, mX7_between (2 : Int32).toInt64 (0 : Int64) (4 : Int64) M = some 1 from fun _ => bt_1 (by decide) (by decide), cap_e, ite_n (by decide)]
    first | rw [ite_p (by decide)] | rw [ite_n (by decide)]
    unfold mX7_isTool_b25
    rw [hb, cap_e, ite_p rfl]
theorem ck_15_3_0 : (mlc_15 3 0 0 0 0 MZ MZ).isSome = true := by decide +kernel
theorem ck_15_3_1 : (mlc_15 3 1 0 0 0 MZ MZ).isSome = true := by decide +kernel
theorem cz_15_3 (a2 a3 a4 a5 : Int32) : ∃ M' N', mlc_15 3 a2 a3 a4 a5 MZ MZ = some (M', N') := by
  by_cases c0 : a2 = 0
  · subst c0
    have h := ck_15_3_0
    unfold mlc_15 at h ⊢
    exact ex_s h
  by_cases c1 : a2 = 1
  · subst c1
    have h := ck_15_3_1
    unfold mlc_15 at h ⊢
    exact ex_s h
  have n : ∀ k : Int32, ¬ a2 = k → a2.toInt ≠ k.toInt := fun k hk q => hk (Int32.toInt_inj.mp q)
  have n0 := n 0 c0
  rw [show (0 : Int32).toInt = 0 by decide] at n0
  have n1 := n 1 c1
  rw [show (1 : Int32).toInt = 1 by decide] at n1
  refine t_thr (t_of (n := 2) rfl (by decide) rfl ?_) ?_ a3 a4 a5
  · rw [tI (v := 0) (by decide), tI (v := 2) (by decide)]; omega
  · have hb : mX7_between a2.toInt64 0 1 MZ = some 0 := bt_0 (by rw [tL (v := 0) (by decide), tK (v := 1) (by decide)]; omega)
    unfold mX7_isTool
    rw [show ∀ M, mX7_between (3 : Int32).toInt64 (0 : Int64) (4 : Int64) M = some 1 from fun _ => bt_1 (by decide) (by decide), cap_e, ite_n (by decide)]
    first | rw [ite_p (by decide)] | rw [ite_n (by decide)]
    unfold mX7_isTool_b25
    rw [hb, cap_e, ite_p rfl]
theorem ck_15_4_0 : (mlc_15 4 0 0 0 0 MZ MZ).isSome = true := by decide +kernel
theorem cz_15_4 (a2 a3 a4 a5 : Int32) : ∃ M' N', mlc_15 4 a2 a3 a4 a5 MZ MZ = some (M', N') := by
  by_cases c0 : a2 = 0
  · subst c0
    have h := ck_15_4_0
    unfold mlc_15 at h ⊢
    exact ex_s h
  have n : ∀ k : Int32, ¬ a2 = k → a2.toInt ≠ k.toInt := fun k hk q => hk (Int32.toInt_inj.mp q)
  have n0 := n 0 c0
  rw [show (0 : Int32).toInt = 0 by decide] at n0
  refine t_thr (t_of (n := 1) rfl (by decide) rfl ?_) ?_ a3 a4 a5
  · rw [tI (v := 0) (by decide), tI (v := 1) (by decide)]; omega
  · have hb : mX7_between a2.toInt64 0 0 MZ = some 0 := bt_0 (by rw [tL (v := 0) (by decide), tK (v := 0) (by decide)]; omega)
    unfold mX7_isTool
    rw [show ∀ M, mX7_between (4 : Int32).toInt64 (0 : Int64) (4 : Int64) M = some 1 from fun _ => bt_1 (by decide) (by decide), cap_e, ite_n (by decide)]
    first | rw [ite_p (by decide)] | rw [ite_n (by decide)]
    unfold mX7_isTool_b25
    rw [hb, cap_e, ite_p rfl]
theorem cz_15 (a1 a2 a3 a4 a5 : Int32) : ∃ M' N', mlc_15 a1 a2 a3 a4 a5 MZ MZ = some (M', N') := by
  by_cases c0 : a1 = 0
  · subst c0; exact cz_15_0 a2 a3 a4 a5
  by_cases c1 : a1 = 1
  · subst c1; exact cz_15_1 a2 a3 a4 a5
  by_cases c2 : a1 = 2
  · subst c2; exact cz_15_2 a2 a3 a4 a5
  by_cases c3 : a1 = 3
  · subst c3; exact cz_15_3 a2 a3 a4 a5
  by_cases c4 : a1 = 4
  · subst c4; exact cz_15_4 a2 a3 a4 a5
  have hc : ¬ a1 = 0 ∧ ¬ a1 = 1 ∧ ¬ a1 = 2 ∧ ¬ a1 = 3 ∧ ¬ a1 = 4 := ⟨c0, c1, c2, c3, c4⟩
  have hr := t_rg hc
  refine t_thr ?_ ?_ a3 a4 a5
  · unfold mX6_tool
    rw [t_no hc, cap_e, opt_0]; rfl
  · unfold mX7_isTool
    rw [bt_0 (by rw [tL (v := 0) (by decide), tK (v := 4) (by decide)]; exact hr), cap_e, ite_p rfl]
