/-! calls whose parameters matter -/
def MF : Mem := wr MZ 135 5 0
theorem z_good1 : mX7_good 135 1 MZ = some (MF, 1) := rfl
theorem tI {a k : Int32} {v : Int} (h : k.toInt = v) : a < k ↔ a.toInt < v := by rw [Int32.lt_iff_toInt_lt, h]
theorem tJ {a k : Int32} {v : Int} (h : k.toInt = v) : k < a ↔ v < a.toInt := by rw [Int32.lt_iff_toInt_lt, h]
theorem tL {a : Int32} {k : Int64} {v : Int} (h : k.toInt = v) : a.toInt64 < k ↔ a.toInt < v := by rw [Int64.lt_iff_toInt_lt, h, Int32.toInt_toInt64]
theorem tK {a : Int32} {k : Int64} {v : Int} (h : k.toInt = v) : k < a.toInt64 ↔ v < a.toInt := by rw [Int64.lt_iff_toInt_lt, h, Int32.toInt_toInt64]
/-! refused -/
theorem zr_31 {a1 : Int32} (h : ¬ a1 < 1) (h2 : ¬ 6 < a1) : mL_refused 0 152 a1 MZ = some (wl MZ 152 0 0, .inl 0) := by
  unfold mL_refused mX6_refused ite2
  have h3 : a1 ≤ 6 := by rw [Int32.le_iff_toInt_le]; rw [Int32.lt_iff_toInt_lt] at h2; omega
  rw [if_neg h, if_pos h3]
  show calt (mX6_refused_b25 0 (mX6_refused_l25 0 4999) a1 0 0 MZ) _ _ = _
  unfold mX6_refused_b25
  rw [z_cnt]
  rfl
theorem cz_31 (a1 a2 a3 a4 a5 : Int32) : ∃ M' N', mlc_31 a1 a2 a3 a4 a5 MZ MZ = some (M', N') := by
  by_cases h : a1 < 1 ∨ 6 < a1
  · have e1 : mL_refused 0 152 a1 MZ = some (MZ, .inl 1) := by
      unfold mL_refused mX6_refused ite2
      rcases h with h | h
      · rw [if_pos h]; rfl
      · rw [if_neg (by rw [tI (v := 1) (by decide)]; rw [tJ (v := 6) (by decide)] at h; omega), if_neg (by rw [Int32.le_iff_toInt_le]; rw [Int32.lt_iff_toInt_lt] at h; omega)]; rfl
    have e2 : mX7_refused 135 a1 MZ = some (ME, 0) := by
      unfold mX7_refused
      rw [bt_0 (by rcases h with h | h; · left; rw [tL (v := 1) (by decide)]; rw [tI (v := 1) (by decide)] at h; exact h; · right; rw [tK (v := 6) (by decide)]; rw [tJ (v := 6) (by decide)] at h; exact h)]
      show cal (mX7_good 135 0 MZ) _ = _
      rw [z_good]
      rfl
    refine ⟨MZ, ME, ?_⟩
    unfold mlc_31
    rw [e1]
    show cal (mX7_refused 135 a1 MZ) _ = _
    rw [e2]
    show cap (mX7_thrown 135 ME) _ = _
    rw [z_th]
    rfl
  · have ha : ¬ a1 < 1 := fun q => h (Or.inl q)
    have hb : ¬ 6 < a1 := fun q => h (Or.inr q)
    have e2 : mX7_refused 135 a1 MZ = some (MF, 0) := by
      unfold mX7_refused
      rw [bt_1 (by rw [tL (v := 1) (by decide)]; rw [tI (v := 1) (by decide)] at ha; exact ha) (by rw [tK (v := 6) (by decide)]; rw [tJ (v := 6) (by decide)] at hb; exact hb)]
      show cal (mX7_good 135 1 MZ) _ = _
      rw [z_good1]
      show mX7_refused_b22 135 (mX7_refused_l22 135 4999) a1 0 0 MF = _
      rfl
    refine ⟨wl MZ 152 0 0, MF, ?_⟩
    unfold mlc_31
    rw [zr_31 ha hb]
    show cal (mX7_refused 135 a1 MZ) _ = _
    rw [e2]
    rfl
/-! load -/
theorem ck_1 : (mlc_1 0 0 0 0 0 MZ MZ).isSome = true := by decide +kernel
theorem cz_1 (a1 a2 a3 a4 a5 : Int32) : ∃ M' N', mlc_1 a1 a2 a3 a4 a5 MZ MZ = some (M', N') := by
  by_cases h : a1 = 0
  · subst h
    have h := ck_1
    unfold mlc_1 at h ⊢
    exact ex_s h
  · have hn : a1.toInt ≠ 0 := fun q => h (Int32.toInt_inj.mp q)
    have e1 : mL_load 0 152 a1 MZ = some (MZ, .inl 1) := by
      have h0 : rd MZ 0 1 = 0 := rfl
      unfold mL_load mX6_load ite2
      by_cases c : a1 < 0
      · rw [if_pos c]; rfl
      · rw [if_neg c, h0, if_neg (by rw [Int32.le_iff_toInt_le]; rw [tI (v := 0) (by decide)] at c; have : (0 : Int32).toInt = 0 := by decide; omega)]; rfl
    have e2 : mX7_load 135 a1 MZ = some (ME, 0) := by
      have h0 : (rd MZ 135 7).toInt64 = 0 := by decide +kernel
      unfold mX7_load
      rw [h0, bt_0 (by rw [tL (v := 0) (by decide), tK (v := 0) (by decide)]; omega)]
      show mX7_load_b20 135 a1 1 MZ = _
      rfl
    refine ⟨MZ, ME, ?_⟩
    unfold mlc_1
    rw [e1]
    show cal (mX7_load 135 a1 MZ) _ = _
    rw [e2]
    show cap (mX7_thrown 135 ME) _ = _
    rw [z_th]
    rfl
/-! springBackFor -/
theorem cz_13 (a1 a2 a3 a4 a5 : Int32) : ∃ M' N', mlc_13 a1 a2 a3 a4 a5 MZ MZ = some (M', N') := by
  have hn := fm_tenth a1
  unfold mlc_13 chk
  rw [if_pos hn]
  generalize FP.dmul (FP.i2d a1) (4593671619917905920 : UInt64) = x at hn ⊢
  by_cases c1 : (Op.cmpValue (FP.dcmp x FP.dconst0) CmpOp.l) < 0
  · have e1 : mL_springBackFor 0 153 x MZ = some (MZ, .inl 1) := by
      unfold mL_springBackFor mX6_springBackFor ite2
      rw [if_pos c1]; rfl
    have e2 : mX7_springBackFor 135 x MZ = some (ME, FP.dconst0) := by
      unfold mX7_springBackFor ite2
      rw [if_pos c1]
      unfold mX7_springBackFor_b19 mX7_springBackFor_b20
      rw [z_good]; rfl
    refine ⟨MZ, ME, ?_⟩
    rw [e1]
    show (if n64b x = true then _ else none) = _
    rw [if_pos hn, e2]
    show cap (mX7_thrown 135 ME) _ = _
    rw [z_th]
    rfl
  · by_cases c2 : 0 < (Op.cmpValue (FP.dcmp x (4666722622711529472 : UInt64)) CmpOp.g)
    · have e1 : mL_springBackFor 0 153 x MZ = some (MZ, .inl 1) := by
        unfold mL_springBackFor mX6_springBackFor ite2
        rw [if_neg c1, if_pos c2]; rfl
      have e2 : mX7_springBackFor 135 x MZ = some (ME, FP.dconst0) := by
        unfold mX7_springBackFor ite2
        rw [if_neg c1, if_pos c2]
        unfold mX7_springBackFor_b19 mX7_springBackFor_b20
        rw [z_good]; rfl
      refine ⟨MZ, ME, ?_⟩
      rw [e1]
      show (if n64b x = true then _ else none) = _
      rw [if_pos hn, e2]
      show cap (mX7_thrown 135 ME) _ = _
      rw [z_th]
      rfl
    · have s1 : mX1_springBackAt 5 x MZ = some FP.dconst0 := by
        unfold mX1_springBackAt ite2
        rw [if_pos (show rd MZ 5 10 = 0 from rfl)]
      have e1 : mL_springBackFor 0 153 x MZ = some (wd MZ 153 0 FP.dconst0, .inl 0) := by
        unfold mL_springBackFor mX6_springBackFor mX6_springBackFor_b19 ite2
        rw [if_neg c1, if_neg c2, if_neg (by decide), s1]; rfl
      have s2 : mX7_springBy 135 x MF = some FP.dconst0 := by
        have k0 : okb (19 : Int32) 86 = true := by decide
        unfold mX7_springBy chk bnd ite2
        rw [if_pos k0, if_pos (show rd MF (135 + 1) ((19 : Int32)).toNatClampNeg = 0 by decide +kernel)]
      have e2 : mX7_springBackFor 135 x MZ = some (MF, FP.dconst0) := by
        unfold mX7_springBackFor ite2
        rw [if_neg c1, if_neg c2]
        unfold mX7_springBackFor_b20
        rw [z_good1]
        show cap (mX7_springBy 135 x MF) _ = _
        rw [s2]; rfl
      have e3 : (Op.cmpValue (FP.dcmp ((wd MZ 153 0 FP.dconst0).2.2 153 ((0 : Int32)).toNatClampNeg) FP.dconst0) CmpOp.l) = 0 := by decide +kernel
      refine ⟨wd MZ 153 0 FP.dconst0, MF, ?_⟩
      rw [e1]
      show (if n64b x = true then _ else none) = _
      rw [if_pos hn, e2]
      show (if okb (0 : Int32) 1 = true then ite2 ((Op.cmpValue (FP.dcmp ((wd MZ 153 0 FP.dconst0).2.2 153 ((0 : Int32)).toNatClampNeg) FP.dconst0) CmpOp.l) = 0) (some (wd MZ 153 0 FP.dconst0, MF)) _ else none) = _
      unfold ite2
      rw [if_pos (by decide), if_pos e3]
/-! tool -/
theorem t_thr {a1 a2 : Int32} (h : mX6_tool 0 a1 a2 MZ = some (MZ, .inr 0)) (hm : mX7_isTool a1 a2 MZ = some 0) (a3 a4 a5 : Int32) : ∃ M' N', mlc_15 a1 a2 a3 a4 a5 MZ MZ = some (M', N') := by
  have e1 : mL_tool 0 152 a1 a2 MZ = some (MZ, .inl 1) := by
    unfold mL_tool
    rw [h]; rfl
  have e2 : mX7_tool 135 a1 a2 MZ = some (ME, 0) := by
    unfold mX7_tool
    rw [hm]
    show cal (mX7_good 135 0 MZ) _ = _
    rw [z_good]; rfl
  refine ⟨MZ, ME, ?_⟩
  unfold mlc_15
  rw [e1]
  show cal (mX7_tool 135 a1 a2 MZ) _ = _
  rw [e2]
  show cap (mX7_thrown 135 ME) _ = _
  rw [z_th]
  rfl
theorem t_of {i a2 : Int32} {w : Nat} {n : Int32} (h1 : mX5_ofTool i MZ = some (some w)) (hw : decide (w < 11) = true) (h2 : mX5_numberCount w MZ = some n) (hc : a2 < 0 ∨ ¬ a2 < n) : mX6_tool 0 i a2 MZ = some (MZ, .inr 0) := by
  unfold mX6_tool
  rw [h1]
  show chk (decide (w < 11)) _ = _
  unfold chk ite2
  rw [if_pos hw]
  by_cases c : a2 < 0
  · rw [if_pos c]; rfl
  · rw [if_neg c, h2]
    show (if a2 < n then _ else mX6_tool_b21 0 MZ) = _
    rw [if_neg (hc.resolve_left c)]; rfl
theorem t_no {a : Int32} (h : ¬ a = 0 ∧ ¬ a = 1 ∧ ¬ a = 2 ∧ ¬ a = 3 ∧ ¬ a = 4) : mX5_ofTool a MZ = some none := by
  unfold mX5_ofTool ite2
  rw [if_neg h.1, if_neg h.2.1, if_neg h.2.2.1, if_neg h.2.2.2.1, if_neg h.2.2.2.2]
theorem t_rg {a : Int32} (h : ¬ a = 0 ∧ ¬ a = 1 ∧ ¬ a = 2 ∧ ¬ a = 3 ∧ ¬ a = 4) : a.toInt < 0 ∨ 4 < a.toInt := by
  obtain ⟨h0, h1, h2, h3, h4⟩ := h
  have n : ∀ k : Int32, ¬ a = k → a.toInt ≠ k.toInt := fun k hk q => hk (Int32.toInt_inj.mp q)
  have n0 := n 0 h0
  have n1 := n 1 h1
  have n2 := n 2 h2
  have n3 := n 3 h3
  have n4 := n 4 h4
  rw [show (0 : Int32).toInt = 0 by decide] at n0
  rw [show (1 : Int32).toInt = 1 by decide] at n1
  rw [show (2 : Int32).toInt = 2 by decide] at n2
  rw [show (3 : Int32).toInt = 3 by decide] at n3
  rw [show (4 : Int32).toInt = 4 by decide] at n4
  omega
theorem ck_15_0_0 : (mlc_15 0 0 0 0 0 MZ MZ).isSome = true := by decide +kernel
theorem ck_15_0_1 : (mlc_15 0 1 0 0 0 MZ MZ).isSome = true := by decide +kernel
theorem cz_15_0 (a2 a3 a4 a5 : Int32) : ∃ M' N', mlc_15 0 a2 a3 a4 a5 MZ MZ = some (M', N') := by
  by_cases c0 : a2 = 0
  · subst c0
    have h := ck_15_0_0
    unfold mlc_15 at h ⊢
    exact ex_s h
  by_cases c1 : a2 = 1
  · subst c1
    have h := ck_15_0_1
    unfold mlc_15 at h ⊢
    exact ex_s h
  have n : ∀ k : Int32, ¬ a2 = k → a2.toInt ≠ k.toInt := fun k hk q => hk (Int32.toInt_inj.mp q)
  have n0 := n 0 c0
  rw [show (0 : Int32).toInt = 0 by decide] at n0
  have n1 := n 1 c1
  rw [show (1 : Int32).toInt = 1 by decide] at n1
  refine t_thr (t_of (n := 2) rfl (by decide) rfl ?_) ?_ a3 a4 a5
  · rw [tI (v := 0) (by decide), tI (v := 2) (by decide)]; omega
  · show cap (mX7_between a2.toInt64 0 1 MZ) _ = _
    rw [bt_0 (by rw [tL (v := 0) (by decide), tK (v := 1) (by decide)]; omega)]
    rfl
theorem ck_15_1_0 : (mlc_15 1 0 0 0 0 MZ MZ).isSome = true := by decide +kernel
theorem ck_15_1_1 : (mlc_15 1 1 0 0 0 MZ MZ).isSome = true := by decide +kernel
theorem cz_15_1 (a2 a3 a4 a5 : Int32) : ∃ M' N', mlc_15 1 a2 a3 a4 a5 MZ MZ = some (M', N') := by
  by_cases c0 : a2 = 0
  · subst c0
    have h := ck_15_1_0
    unfold mlc_15 at h ⊢
    exact ex_s h
  by_cases c1 : a2 = 1
  · subst c1
    have h := ck_15_1_1
    unfold mlc_15 at h ⊢
    exact ex_s h
  have n : ∀ k : Int32, ¬ a2 = k → a2.toInt ≠ k.toInt := fun k hk q => hk (Int32.toInt_inj.mp q)
  have n0 := n 0 c0
  rw [show (0 : Int32).toInt = 0 by decide] at n0
  have n1 := n 1 c1
  rw [show (1 : Int32).toInt = 1 by decide] at n1
  refine t_thr (t_of (n := 2) rfl (by decide) rfl ?_) ?_ a3 a4 a5
  · rw [tI (v := 0) (by decide), tI (v := 2) (by decide)]; omega
  · show cap (mX7_between a2.toInt64 0 1 MZ) _ = _
    rw [bt_0 (by rw [tL (v := 0) (by decide), tK (v := 1) (by decide)]; omega)]
    rfl
theorem ck_15_2_0 : (mlc_15 2 0 0 0 0 MZ MZ).isSome = true := by decide +kernel
theorem ck_15_2_1 : (mlc_15 2 1 0 0 0 MZ MZ).isSome = true := by decide +kernel
theorem cz_15_2 (a2 a3 a4 a5 : Int32) : ∃ M' N', mlc_15 2 a2 a3 a4 a5 MZ MZ = some (M', N') := by
  by_cases c0 : a2 = 0
  · subst c0
    have h := ck_15_2_0
    unfold mlc_15 at h ⊢
    exact ex_s h
  by_cases c1 : a2 = 1
  · subst c1
    have h := ck_15_2_1
    unfold mlc_15 at h ⊢
    exact ex_s h
  have n : ∀ k : Int32, ¬ a2 = k → a2.toInt ≠ k.toInt := fun k hk q => hk (Int32.toInt_inj.mp q)
  have n0 := n 0 c0
  rw [show (0 : Int32).toInt = 0 by decide] at n0
  have n1 := n 1 c1
  rw [show (1 : Int32).toInt = 1 by decide] at n1
  refine t_thr (t_of (n := 2) rfl (by decide) rfl ?_) ?_ a3 a4 a5
  · rw [tI (v := 0) (by decide), tI (v := 2) (by decide)]; omega
  · show cap (mX7_between a2.toInt64 0 1 MZ) _ = _
    rw [bt_0 (by rw [tL (v := 0) (by decide), tK (v := 1) (by decide)]; omega)]
    rfl
theorem ck_15_3_0 : (mlc_15 3 0 0 0 0 MZ MZ).isSome = true := by decide +kernel
theorem ck_15_3_1 : (mlc_15 3 1 0 0 0 MZ MZ).isSome = true := by decide +kernel
theorem cz_15_3 (a2 a3 a4 a5 : Int32) : ∃ M' N', mlc_15 3 a2 a3 a4 a5 MZ MZ = some (M', N') := by
  by_cases c0 : a2 = 0
  · subst c0
    have h := ck_15_3_0
    unfold mlc_15 at h ⊢
    exact ex_s h
  by_cases c1 : a2 = 1
  · subst c1
    have h := ck_15_3_1
    unfold mlc_15 at h ⊢
    exact ex_s h
  have n : ∀ k : Int32, ¬ a2 = k → a2.toInt ≠ k.toInt := fun k hk q => hk (Int32.toInt_inj.mp q)
  have n0 := n 0 c0
  rw [show (0 : Int32).toInt = 0 by decide] at n0
  have n1 := n 1 c1
  rw [show (1 : Int32).toInt = 1 by decide] at n1
  refine t_thr (t_of (n := 2) rfl (by decide) rfl ?_) ?_ a3 a4 a5
  · rw [tI (v := 0) (by decide), tI (v := 2) (by decide)]; omega
  · show cap (mX7_between a2.toInt64 0 1 MZ) _ = _
    rw [bt_0 (by rw [tL (v := 0) (by decide), tK (v := 1) (by decide)]; omega)]
    rfl
theorem ck_15_4_0 : (mlc_15 4 0 0 0 0 MZ MZ).isSome = true := by decide +kernel
theorem cz_15_4 (a2 a3 a4 a5 : Int32) : ∃ M' N', mlc_15 4 a2 a3 a4 a5 MZ MZ = some (M', N') := by
  by_cases c0 : a2 = 0
  · subst c0
    have h := ck_15_4_0
    unfold mlc_15 at h ⊢
    exact ex_s h
  have n : ∀ k : Int32, ¬ a2 = k → a2.toInt ≠ k.toInt := fun k hk q => hk (Int32.toInt_inj.mp q)
  have n0 := n 0 c0
  rw [show (0 : Int32).toInt = 0 by decide] at n0
  refine t_thr (t_of (n := 1) rfl (by decide) rfl ?_) ?_ a3 a4 a5
  · rw [tI (v := 0) (by decide), tI (v := 1) (by decide)]; omega
  · show cap (mX7_between a2.toInt64 0 0 MZ) _ = _
    rw [bt_0 (by rw [tL (v := 0) (by decide), tK (v := 0) (by decide)]; omega)]
    rfl
theorem cz_15 (a1 a2 a3 a4 a5 : Int32) : ∃ M' N', mlc_15 a1 a2 a3 a4 a5 MZ MZ = some (M', N') := by
  by_cases c0 : a1 = 0
  · subst c0; exact cz_15_0 a2 a3 a4 a5
  by_cases c1 : a1 = 1
  · subst c1; exact cz_15_1 a2 a3 a4 a5
  by_cases c2 : a1 = 2
  · subst c2; exact cz_15_2 a2 a3 a4 a5
  by_cases c3 : a1 = 3
  · subst c3; exact cz_15_3 a2 a3 a4 a5
  by_cases c4 : a1 = 4
  · subst c4; exact cz_15_4 a2 a3 a4 a5
  have hc : ¬ a1 = 0 ∧ ¬ a1 = 1 ∧ ¬ a1 = 2 ∧ ¬ a1 = 3 ∧ ¬ a1 = 4 := ⟨c0, c1, c2, c3, c4⟩
  have hr := t_rg hc
  refine t_thr ?_ ?_ a3 a4 a5
  · unfold mX6_tool
    rw [t_no hc]; rfl
  · unfold mX7_isTool
    rw [bt_0 (by rw [tL (v := 0) (by decide), tK (v := 4) (by decide)]; exact hr)]
    rfl
