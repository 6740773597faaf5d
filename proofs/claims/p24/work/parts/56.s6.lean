set_option maxHeartbeats 2000000 in
theorem sX6_append_b40 {s : Nat → Int × Int} {ih3 : Int32 → Int32 → Mem → Option (Mem × Unit)} {x1 : Int32} {x2 : Int32} {M : Mem} {d3 : Nat} (h_M : OKb (fT (sB s)) M) (hx2 : (0 : Int) ≤ (x2).toInt ∧ (x2).toInt ≤ 24) (he0 : (1 : Int) ≤ (rd M 0 1).toInt ∧ (rd M 0 1).toInt ≤ 600) (hih3 : ∀ (yx1 : Int32) (yx2 : Int32) (M : Mem), OKb (fT (sB s)) M → ((-8 : Int) ≤ (yx2).toInt ∧ (yx2).toInt ≤ 24) → (yx2).toInt - (-8) < d3 → Sf (ih3 yx1 yx2 M) (pM (fT (sB s)))) (hmu3 : (x2).toInt - (-8) ≤ d3) : Sf (mX6_append_b40 0 ih3 x1 x2 M) (pM (fT (sB s))) := by
  unfold mX6_append_b40
  have n_1 : (((-8) : Int32)).toInt = -8 := rfl
  try have a_2 : ((x2 + ((-8) : Int32))).toInt = (x2).toInt + (((-8) : Int32)).toInt := i_add (by omega) (by omega)
  refine Sf.b (fun x2_40 e_x2_40 => ?_)
  have d_x2_40 := congrArg Int32.toInt e_x2_40
  exact (hih3 _ _ _ h_M ⟨by omega, by omega⟩ (by omega))
set_option maxHeartbeats 2000000 in
theorem sX6_append_b3 {s : Nat → Int × Int} {ih3 : Int32 → Int32 → Mem → Option (Mem × Unit)} {x1 : Int32} {x2 : Int32} {M : Mem} {d3 : Nat} (h_M : OKb (fT (sB s)) M) (hx2 : (-8 : Int) ≤ (x2).toInt ∧ (x2).toInt ≤ 24) (hih3 : ∀ (yx1 : Int32) (yx2 : Int32) (M : Mem), OKb (fT (sB s)) M → ((-8 : Int) ≤ (yx2).toInt ∧ (yx2).toInt ≤ 24) → (yx2).toInt - (-8) < d3 → Sf (ih3 yx1 yx2 M) (pM (fT (sB s)))) (hmu3 : (x2).toInt - (-8) ≤ d3) : Sf (mX6_append_b3 0 ih3 x1 x2 M) (pM (fT (sB s))) := by
  unfold mX6_append_b3
  have n_1 : ((0 : Int32)).toInt = 0 := rfl
  refine Sf.i (fun c_2 => ?_) (fun c_2 => ?_)
  · have c_2 := i_lt.mp c_2
    exact Sf.ok h_M
  · have c_2 := i_nlt c_2
    have n_3 : ((600 : Int32)).toInt = 600 := rfl
    have b_4 : (0 : Int) ≤ (rd M 0 1).toInt ∧ (rd M 0 1).toInt ≤ 600 := h_M.at rfl
    refine Sf.i (fun c_5 => ?_) (fun c_5 => ?_)
    · have c_5 := i_le.mp c_5
      exact (sX6_append_b40 h_M ⟨by omega, by omega⟩ ⟨by omega, by omega⟩ hih3 (by omega))
    · have c_5 := i_nle c_5
      refine Sf.k (ok_in (by omega) (by omega)) ?_
      have v_6 := nar_byte (x := (((x1 >>> (x2 &&& 31))).toInt8).toInt32)
      have z_7 : (-128 : Int) ≤ ((vp_nar .byte ((((x1 >>> (x2 &&& 31))).toInt8).toInt32))).toInt ∧ ((vp_nar .byte ((((x1 >>> (x2 &&& 31))).toInt8).toInt32))).toInt ≤ 127 := ⟨by omega, by omega⟩
      refine Sf.b (fun M6 e_M6 => ?_)
      have h_M6 : OKb (fT (sB s)) M6 := by rw [e_M6]; exact h_M.put rfl z_7
      have w_8 : (rd M6 0 1).toInt = (rd M 0 1).toInt := by rw [e_M6, rd_wk (by omega)]
      have n_9 : ((1 : Int32)).toInt = 1 := rfl
      try have a_10 : (((rd M6 0 1) + (1 : Int32))).toInt = ((rd M6 0 1)).toInt + ((1 : Int32)).toInt := i_add (by omega) (by omega)
      have z_11 : (0 : Int) ≤ (((rd M6 0 1) + (1 : Int32))).toInt ∧ (((rd M6 0 1) + (1 : Int32))).toInt ≤ 600 := ⟨by omega, by omega⟩
      refine Sf.b (fun M7 e_M7 => ?_)
      have h_M7 : OKb (fT (sB s)) M7 := by rw [e_M7]; exact h_M6.put rfl z_11
      have w_12 : (rd M7 0 1).toInt = (((rd M6 0 1) + (1 : Int32))).toInt := by rw [e_M7, rd_we]
      exact (sX6_append_b40 h_M7 ⟨by omega, by omega⟩ ⟨by omega, by omega⟩ hih3 (by omega))
theorem sX6_append_l3_n {s : Nat → Int × Int}    : ∀ (n : Nat) (x1 : Int32) (x2 : Int32) (M : Mem) (h_M : OKb (fT (sB s)) M) (hx2 : (-8 : Int) ≤ (x2).toInt ∧ (x2).toInt ≤ 24)    (hmu : (x2).toInt - (-8) < n), Sf (mX6_append_l3 0 n x1 x2 M) (pM (fT (sB s))) := by
  intro n
  induction n with
  | zero => intro x1 x2 M h_M hx2 hmu; exfalso; omega
  | succ n IH => intro x1 x2 M h_M hx2 hmu; exact sX6_append_b3  h_M hx2    IH (by omega)
theorem sX6_append_l3 {s : Nat → Int × Int}  {x1 : Int32} {x2 : Int32} {M : Mem}  (h_M : OKb (fT (sB s)) M) (hx2 : (-8 : Int) ≤ (x2).toInt ∧ (x2).toInt ≤ 24)    (hmu : (x2).toInt - (-8) < 5000) : Sf (mX6_append_l3 0 5000 x1 x2 M) (pM (fT (sB s))) :=
  sX6_append_l3_n   5000 _ _ M h_M hx2    hmu
set_option maxHeartbeats 2000000 in
theorem sX6_append {s : Nat → Int × Int} {x1 : Int32} {M : Mem} (h_M : OKb (fT (sB s)) M) : Sf (mX6_append 0 x1 M) (pM (fT (sB s))) := by
  unfold mX6_append
  have n_1 : ((24 : Int32)).toInt = 24 := rfl
  exact (sX6_append_l3 h_M ⟨by omega, by omega⟩ (by omega))
set_option maxHeartbeats 2000000 in
theorem sX6_feed {s : Nat → Int × Int} {x1 : Int32} {x2 : Int32} {x3 : Int32} {x4 : Int32} {x5 : Int32} {M : Mem} (h_M : OKb (fT (sB s)) M) : Sf (mX6_feed 0 x1 x2 x3 x4 x5 M) (pMI (fT (sB s)) (-2) (600)) := by
  unfold mX6_feed
  have b_1 : (0 : Int) ≤ (rd M 0 1).toInt ∧ (rd M 0 1).toInt ≤ 600 := h_M.at rfl
  have n_2 : ((20 : Int32)).toInt = 20 := rfl
  try have a_3 : (((rd M 0 1) + (20 : Int32))).toInt = ((rd M 0 1)).toInt + ((20 : Int32)).toInt := i_add (by omega) (by omega)
  have n_4 : ((600 : Int32)).toInt = 600 := rfl
  refine Sf.i (fun c_5 => ?_) (fun c_5 => ?_)
  · have c_5 := i_le.mp c_5
    refine Sf.m (sX6_append h_M) (fun M4 _ h_M4 => ?_)
    have h_M4 : OKb (fT (sB s)) M4 := h_M4
    refine Sf.m (sX6_append h_M4) (fun M7 _ h_M7 => ?_)
    have h_M7 : OKb (fT (sB s)) M7 := h_M7
    refine Sf.m (sX6_append h_M7) (fun M10 _ h_M10 => ?_)
    have h_M10 : OKb (fT (sB s)) M10 := h_M10
    refine Sf.m (sX6_append h_M10) (fun M13 _ h_M13 => ?_)
    have h_M13 : OKb (fT (sB s)) M13 := h_M13
    refine Sf.m (sX6_append h_M13) (fun M16 _ h_M16 => ?_)
    have h_M16 : OKb (fT (sB s)) M16 := h_M16
    have b_11 : (0 : Int) ≤ (rd M16 0 1).toInt ∧ (rd M16 0 1).toInt ≤ 600 := h_M16.at rfl
    have z_12 : (-2 : Int) ≤ ((rd M16 0 1)).toInt ∧ ((rd M16 0 1)).toInt ≤ 600 := ⟨by omega, by omega⟩
    exact Sf.ok ⟨h_M16, z_12⟩
  · have c_5 := i_nle c_5
    have n_13 : (((-2) : Int32)).toInt = -2 := rfl
    have z_14 : (-2 : Int) ≤ (((-2) : Int32)).toInt ∧ (((-2) : Int32)).toInt ≤ 600 := ⟨by omega, by omega⟩
    exact Sf.ok ⟨h_M, z_14⟩
set_option maxHeartbeats 2000000 in
theorem sX6_load_b12 {s : Nat → Int × Int} {M : Mem} (h_M : OKb (fT (sB s)) M) : Sf (mX6_load_b12 0 M) (pX (fT (sB s)) (rI (-3) (8)) [0]) := by
  unfold mX6_load_b12
  exact Sf.ok ⟨h_M, show (0 : Nat) ∈ [0] from by decide⟩
set_option maxHeartbeats 2000000 in
theorem sX6_load {s : Nat → Int × Int} {x1 : Int32} {M : Mem} (h_M : OKb (fT (sB s)) M) : Sf (mX6_load 0 x1 M) (pX (fT (sB s)) (rI (-3) (8)) [0]) := by
  unfold mX6_load
  have n_1 : ((0 : Int32)).toInt = 0 := rfl
  refine Sf.i (fun c_2 => ?_) (fun c_2 => ?_)
  · have c_2 := i_lt.mp c_2
    exact (sX6_load_b12 h_M)
  · have c_2 := i_nlt c_2
    have b_3 : (0 : Int) ≤ (rd M 0 1).toInt ∧ (rd M 0 1).toInt ≤ 600 := h_M.at rfl
    refine Sf.i (fun c_4 => ?_) (fun c_4 => ?_)
    · have c_4 := i_le.mp c_4
      have n_5 : ((0 : Int32)).toInt = 0 := rfl
      have z_6 : (0 : Int) ≤ ((0 : Int32)).toInt ∧ ((0 : Int32)).toInt ≤ 600 := ⟨by omega, by omega⟩
      refine Sf.b (fun M3 e_M3 => ?_)
      have h_M3 : OKb (fT (sB s)) M3 := by rw [e_M3]; exact h_M.put rfl z_6
      refine Sf.m (sX4_readText isP_13 h_M3 ⟨by omega, by omega⟩) (fun M7 r6 p_7 => ?_)
      have h_M7 : OKb (fT (sB s)) M7 := p_7.1
      have p_7 : (0 : Int) ≤ (r6).toInt ∧ (r6).toInt ≤ (1 : Int) := p_7.2
      refine Sf.i (fun c_8 => ?_) (fun c_8 => ?_)
      · have c_8 := i_eq.mp c_8
        have n_9 : (((-3) : Int32)).toInt = -3 := rfl
        have z_10 : (-3 : Int) ≤ (((-3) : Int32)).toInt ∧ (((-3) : Int32)).toInt ≤ 8 := ⟨by omega, by omega⟩
        exact Sf.ok ⟨h_M7, z_10⟩
      · have c_8 := i_ne c_8
        refine Sf.m (sX1_copyFrom isP_5 isP_13 h_M7) (fun M11 _ p_11 => ?_)
        have h_M11 : OKb (fT (sB s)) M11 := p_11.1
        have gq_M11 : ∀ j, rd M11 21 j = rd M7 21 j := p_11.2
        refine Sf.m (sX0_forgetAll h_M11) (fun M14 _ h_M14 => ?_)
        have h_M14 : OKb (fT (sB s)) M14 := h_M14
        refine Sf.c (sX1_bendCount isP_5 h_M14) (fun r16 p_13 => ?_)
        obtain ⟨p_13a, p_13b⟩ := p_13
        have z_14 : (-3 : Int) ≤ (r16).toInt ∧ (r16).toInt ≤ 8 := ⟨by omega, by omega⟩
        exact Sf.ok ⟨h_M14, z_14⟩
    · have c_4 := i_nle c_4
      exact (sX6_load_b12 h_M)
set_option maxHeartbeats 2000000 in
theorem sX6_errorKind {s : Nat → Int × Int} {M : Mem} (h_M : OKb (fT s) M) : Sf (mX6_errorKind 0 M) (pI (0) (5)) := by
  unfold mX6_errorKind
  have b_1 : (0 : Int) ≤ (rd M 2 0).toInt ∧ (rd M 2 0).toInt ≤ 5 := h_M.at rfl
  have z_2 : (0 : Int) ≤ ((rd M 2 0)).toInt ∧ ((rd M 2 0)).toInt ≤ 5 := ⟨by omega, by omega⟩
  exact Sf.ok z_2
set_option maxHeartbeats 2000000 in
theorem sX6_errorPosition {s : Nat → Int × Int} {M : Mem} (h_M : OKb (fT s) M) : Sf (mX6_errorPosition 0 M) (pI (-1) (600)) := by
  unfold mX6_errorPosition
  have b_1 : (-1 : Int) ≤ (rd M 2 1).toInt ∧ (rd M 2 1).toInt ≤ 600 := h_M.at rfl
  have z_2 : (-1 : Int) ≤ ((rd M 2 1)).toInt ∧ ((rd M 2 1)).toInt ≤ 600 := ⟨by omega, by omega⟩
  exact Sf.ok z_2
set_option maxHeartbeats 2000000 in
theorem sX6_bends {s : Nat → Int × Int} {M : Mem} (h_M : OKb (fT s) M) : Sf (mX6_bends 0 M) (pI (0) (8)) := by
  unfold mX6_bends
  refine Sf.c (sX1_bendCount isP_5 h_M) (fun r2 p_1 => ?_)
  obtain ⟨p_1a, p_1b⟩ := p_1
  have z_2 : (0 : Int) ≤ (r2).toInt ∧ (r2).toInt ≤ 8 := ⟨by omega, by omega⟩
  exact Sf.ok z_2
set_option maxHeartbeats 2000000 in
theorem sX6_legs {s : Nat → Int × Int} {M : Mem} (h_M : OKb (fT s) M) : Sf (mX6_legs 0 M) (pI (0) (9)) := by
  unfold mX6_legs
  have b_1 : (0 : Int) ≤ (rd M 5 0).toInt ∧ (rd M 5 0).toInt ≤ 9 := h_M.at rfl
  have z_2 : (0 : Int) ≤ ((rd M 5 0)).toInt ∧ ((rd M 5 0)).toInt ≤ 9 := ⟨by omega, by omega⟩
  exact Sf.ok z_2
set_option maxHeartbeats 2000000 in
theorem sX6_requireLeg_b21 {s : Nat → Int × Int} {M : Mem} (h_M : OKb (fT s) M) : Sf (mX6_requireLeg_b21 0 M) (pX (fT s) (fun _ => False) [1]) := by
  unfold mX6_requireLeg_b21
  exact Sf.ok ⟨h_M, show (1 : Nat) ∈ [1] from by decide⟩
set_option maxHeartbeats 2000000 in
theorem sX6_requireLeg {s : Nat → Int × Int} {x1 : Int32} {M : Mem} (h_M : OKb (fT s) M) : Sf (mX6_requireLeg 0 x1 M) (pX (fT s) (fun _ => ((0 : Int) ≤ (x1).toInt ∧ (x1).toInt ≤ 8)) [1]) := by
  unfold mX6_requireLeg
  have n_1 : ((0 : Int32)).toInt = 0 := rfl
  refine Sf.i (fun c_2 => ?_) (fun c_2 => ?_)
  · have c_2 := i_lt.mp c_2
    exact Sf.mono (sX6_requireLeg_b21 h_M) (fun q h => pX_throw h)
  · have c_2 := i_nlt c_2
    have b_3 : (0 : Int) ≤ (rd M 5 0).toInt ∧ (rd M 5 0).toInt ≤ 9 := h_M.at rfl
    refine Sf.i (fun c_4 => ?_) (fun c_4 => ?_)
    · have c_4 := i_le.mp c_4
      exact Sf.mono (sX6_requireLeg_b21 h_M) (fun q h => pX_throw h)
    · have c_4 := i_nle c_4
      have n_5 : ((9 : Int32)).toInt = 9 := rfl
      refine Sf.i (fun c_6 => ?_) (fun c_6 => ?_)
      · have c_6 := i_lt.mp c_6
        exact Sf.ok ⟨h_M, by omega⟩
      · have c_6 := i_nlt c_6
        exfalso; omega
set_option maxHeartbeats 2000000 in
theorem sX6_leg {s : Nat → Int × Int} {x1 : Int32} {M : Mem} (h_M : OKb (fT s) M) : Sf (mX6_leg 0 x1 M) (pX (fT s) (rI (0) (9999)) [1]) := by
  unfold mX6_leg
  refine Sf.x (sX6_requireLeg h_M) (fun M3 _ p_1 => ?_) (fun M e h => ⟨h.1, h.2⟩)
  have h_M3 : OKb (fT s) M3 := p_1.1
  have p_1h : ((0 : Int) ≤ (x1).toInt ∧ (x1).toInt ≤ 8) := p_1.2
  refine Sf.k (ok_in (by omega) (by omega)) ?_
  have b_2 : (0 : Int) ≤ (rd M3 (5 + 1) ((x1).toNatClampNeg)).toInt ∧ (rd M3 (5 + 1) ((x1).toNatClampNeg)).toInt ≤ 9999 := h_M3.at rfl
  have z_3 : (0 : Int) ≤ ((rd M3 (5 + 1) ((x1).toNatClampNeg))).toInt ∧ ((rd M3 (5 + 1) ((x1).toNatClampNeg))).toInt ≤ 9999 := ⟨by omega, by omega⟩
  exact Sf.ok ⟨h_M3, z_3⟩
set_option maxHeartbeats 2000000 in
theorem sX6_requireBend_b21 {s : Nat → Int × Int} {M : Mem} (h_M : OKb (fT s) M) : Sf (mX6_requireBend_b21 0 M) (pX (fT s) (fun _ => False) [1]) := by
  unfold mX6_requireBend_b21
  exact Sf.ok ⟨h_M, show (1 : Nat) ∈ [1] from by decide⟩
set_option maxHeartbeats 2000000 in
theorem sX6_requireBend {s : Nat → Int × Int} {x1 : Int32} {M : Mem} (h_M : OKb (fT s) M) : Sf (mX6_requireBend 0 x1 M) (pX (fT s) (fun _ => ((0 : Int) ≤ (x1).toInt ∧ (x1).toInt ≤ 7)) [1]) := by
  unfold mX6_requireBend
  have n_1 : ((0 : Int32)).toInt = 0 := rfl
  refine Sf.i (fun c_2 => ?_) (fun c_2 => ?_)
  · have c_2 := i_lt.mp c_2
    exact Sf.mono (sX6_requireBend_b21 h_M) (fun q h => pX_throw h)
  · have c_2 := i_nlt c_2
    refine Sf.c (sX1_bendCount isP_5 h_M) (fun r3 p_3 => ?_)
    obtain ⟨p_3a, p_3b⟩ := p_3
    refine Sf.i (fun c_4 => ?_) (fun c_4 => ?_)
    · have c_4 := i_le.mp c_4
      exact Sf.mono (sX6_requireBend_b21 h_M) (fun q h => pX_throw h)
    · have c_4 := i_nle c_4
      have n_5 : ((8 : Int32)).toInt = 8 := rfl
      refine Sf.i (fun c_6 => ?_) (fun c_6 => ?_)
      · have c_6 := i_lt.mp c_6
        exact Sf.ok ⟨h_M, by omega⟩
      · have c_6 := i_nlt c_6
        exfalso; omega
set_option maxHeartbeats 2000000 in
theorem sX6_isUp {s : Nat → Int × Int} {x1 : Int32} {M : Mem} (h_M : OKb (fT s) M) : Sf (mX6_isUp 0 x1 M) (pX (fT s) (rI (0) (1)) [1]) := by
  unfold mX6_isUp
  refine Sf.x (sX6_requireBend h_M) (fun M3 _ p_1 => ?_) (fun M e h => ⟨h.1, h.2⟩)
  have h_M3 : OKb (fT s) M3 := p_1.1
  have p_1h : ((0 : Int) ≤ (x1).toInt ∧ (x1).toInt ≤ 7) := p_1.2
  refine Sf.c (sX1_goesUp isP_5 h_M3 ⟨by omega, by omega⟩) (fun r6 p_2 => ?_)
  obtain ⟨p_2a, p_2b⟩ := p_2
  refine Sf.k (isB_in ⟨by omega, by omega⟩) ?_
  have z_3 : (0 : Int) ≤ (r6).toInt ∧ (r6).toInt ≤ 1 := ⟨by omega, by omega⟩
  exact Sf.ok ⟨h_M3, z_3⟩
set_option maxHeartbeats 2000000 in
theorem sX6_tool_b21 {s : Nat → Int × Int} {M : Mem} (h_M : OKb (fT s) M) : Sf (mX6_tool_b21 0 M) (pX (fT s) (rI (-2147483648) (2147483647)) [0]) := by
  unfold mX6_tool_b21
  exact Sf.ok ⟨h_M, show (0 : Nat) ∈ [0] from by decide⟩
set_option maxHeartbeats 2000000 in
theorem sX6_tool {s : Nat → Int × Int} {x1 : Int32} {x2 : Int32} {M : Mem} (h_M : OKb (fT s) M) : Sf (mX6_tool 0 x1 x2 M) (pX (fT s) (rI (-2147483648) (2147483647)) [0]) := by
  unfold mX6_tool
  refine Sf.c sX5_ofTool (fun r2 p_1 => ?_)
  have p_1 : r2 = none ∨ ∃ w, r2 = some w ∧ 5 ≤ w ∧ w ≤ 9 ∧ (w : Int) = 5 + (x1).toInt := p_1
  refine Sf.o (fun c_2 => ?_) (fun w4 c_2 => ?_)
  · skip
    exact (sX6_tool_b21 h_M)
  · skip
    have p_1 : 5 ≤ w4 ∧ w4 ≤ 9 ∧ ((w4 : Nat) : Int) = 5 + _ := of_rel p_1 c_2
    refine Sf.k (decide_eq_true (by omega)) ?_
    have n_3 : ((0 : Int32)).toInt = 0 := rfl
    refine Sf.i (fun c_4 => ?_) (fun c_4 => ?_)
    · have c_4 := i_lt.mp c_4
      exact (sX6_tool_b21 h_M)
    · have c_4 := i_nlt c_4
      refine Sf.c sX5_numberCount (fun r8 p_5 => ?_)
      have p_5 : ((1 : Int) ≤ (r8).toInt ∧ (r8).toInt ≤ 3) ∧ ((w4 = 9 ∧ (r8).toInt = 1) ∨ (5 ≤ w4 ∧ w4 ≤ 8 ∧ (r8).toInt = 2) ∨ w4 < 5 ∨ 9 < w4) := p_5
      refine Sf.i (fun c_6 => ?_) (fun c_6 => ?_)
      · have c_6 := i_lt.mp c_6
        have n_7 : ((2 : Int32)).toInt = 2 := rfl
        try have a_8 : (((2 : Int32) * x1)).toInt = 2 * (x1).toInt := i_mulc (by omega) (by omega) (by omega)
        try have a_9 : ((((2 : Int32) * x1) + x2)).toInt = (((2 : Int32) * x1)).toInt + (x2).toInt := i_add (by omega) (by omega)
        refine Sf.k (ok_in (by omega) (by omega)) ?_
        exact Sf.ok ⟨h_M, (i_rng _)⟩
      · have c_6 := i_nlt c_6
        exact (sX6_tool_b21 h_M)
set_option maxHeartbeats 2000000 in
theorem sX6_finishedWidth {s : Nat → Int × Int} {M : Mem} (h_M : OKb (fT s) M) : Sf (mX6_finishedWidth 0 M) (pMI (fT s) (-2147483648) (2147483647)) := by
  unfold mX6_finishedWidth
  refine Sf.m (sX2_layFinished isL_103 isP_5 h_M) (fun M3 _ h_M3 => ?_)
  have h_M3 : OKb (fT s) M3 := h_M3
  have b_2 : (0 : Int) ≤ (rd M3 5 0).toInt ∧ (rd M3 5 0).toInt ≤ 9 := h_M3.at rfl
  refine Sf.c (sX2_extent_1 h_M3 ⟨by omega, by omega⟩) (fun r5 p_3 => ?_)
  obtain ⟨p_3a, p_3b⟩ := p_3
  exact Sf.ok ⟨h_M3, (i_rng _)⟩
set_option maxHeartbeats 2000000 in
theorem sX6_finishedHeight {s : Nat → Int × Int} {M : Mem} (h_M : OKb (fT s) M) : Sf (mX6_finishedHeight 0 M) (pMI (fT s) (-2147483648) (2147483647)) := by
  unfold mX6_finishedHeight
  refine Sf.m (sX2_layFinished isL_103 isP_5 h_M) (fun M3 _ h_M3 => ?_)
  have h_M3 : OKb (fT s) M3 := h_M3
  have b_2 : (0 : Int) ≤ (rd M3 5 0).toInt ∧ (rd M3 5 0).toInt ≤ 9 := h_M3.at rfl
  refine Sf.c (sX2_extent_0 h_M3 ⟨by omega, by omega⟩) (fun r5 p_3 => ?_)
  obtain ⟨p_3a, p_3b⟩ := p_3
  exact Sf.ok ⟨h_M3, (i_rng _)⟩
set_option maxHeartbeats 2000000 in
theorem sX6_isFinishedCrossed {s : Nat → Int × Int} {M : Mem} (h_M : OKb (fT s) M) : Sf (mX6_isFinishedCrossed 0 M) (pMI (fT s) (0) (1)) := by
  unfold mX6_isFinishedCrossed
  refine Sf.m (sX2_layFinished isL_103 isP_5 h_M) (fun M3 _ h_M3 => ?_)
  have h_M3 : OKb (fT s) M3 := h_M3
  refine Sf.c (sX2_crossesItself isL_103 h_M3) (fun r5 p_2 => ?_)
  obtain ⟨p_2a, p_2b⟩ := p_2
  refine Sf.k (isB_in ⟨by omega, by omega⟩) ?_
  have z_3 : (0 : Int) ≤ (r5).toInt ∧ (r5).toInt ≤ 1 := ⟨by omega, by omega⟩
  exact Sf.ok ⟨h_M3, z_3⟩
set_option maxHeartbeats 2000000 in
theorem sX6_requireChoice_b9 {s : Nat → Int × Int} {M : Mem} (h_M : OKb (fT s) M) : Sf (mX6_requireChoice_b9 M) (pX (fT s) (fun _ => False) [0]) := by
  unfold mX6_requireChoice_b9
  exact Sf.ok ⟨h_M, show (0 : Nat) ∈ [0] from by decide⟩
set_option maxHeartbeats 2000000 in
theorem sX6_requireChoice {s : Nat → Int × Int} {x0 : Int32} {x1 : Int32} {M : Mem} (h_M : OKb (fT s) M) (hx1 : (1 : Int) ≤ (x1).toInt ∧ (x1).toInt ≤ 3) : Sf (mX6_requireChoice x0 x1 M) (pX (fT s) (fun _ => ((0 : Int) ≤ (x0).toInt ∧ (x0).toInt ≤ (x1).toInt)) [0]) := by
  unfold mX6_requireChoice
  have n_1 : ((0 : Int32)).toInt = 0 := rfl
  refine Sf.i (fun c_2 => ?_) (fun c_2 => ?_)
  · have c_2 := i_lt.mp c_2
    exact Sf.mono (sX6_requireChoice_b9 h_M) (fun q h => pX_throw h)
  · have c_2 := i_nlt c_2
    refine Sf.i (fun c_3 => ?_) (fun c_3 => ?_)
    · have c_3 := i_le.mp c_3
      exact Sf.ok ⟨h_M, by omega⟩
    · have c_3 := i_nle c_3
      exact Sf.mono (sX6_requireChoice_b9 h_M) (fun q h => pX_throw h)
set_option maxHeartbeats 2000000 in
theorem sX6_finishedCorner {s : Nat → Int × Int} {x1 : Int32} {x2 : Int32} {M : Mem} (h_M : OKb (fT s) M) : Sf (mX6_finishedCorner 0 x1 x2 M) (pX (fT s) (rI (-2147483648) (2147483647)) [0, 1]) := by
  unfold mX6_finishedCorner
  refine Sf.x (sX6_requireLeg h_M) (fun M3 _ p_1 => ?_) (fun M e h => ⟨h.1, mem_sub (by decide) h.2⟩)
  have h_M3 : OKb (fT s) M3 := p_1.1
  have p_1h : ((0 : Int) ≤ (x1).toInt ∧ (x1).toInt ≤ 8) := p_1.2
  have n_2 : ((1 : Int32)).toInt = 1 := rfl
  refine Sf.x (sX6_requireChoice h_M3 ⟨by omega, by omega⟩) (fun M7 _ p_3 => ?_) (fun M e h => ⟨h.1, mem_sub (by decide) h.2⟩)
  have h_M7 : OKb (fT s) M7 := p_3.1
  have p_3h : ((0 : Int) ≤ (x2).toInt ∧ (x2).toInt ≤ ((1 : Int32)).toInt) := p_3.2
  refine Sf.m (sX2_layFinished isL_103 isP_5 h_M7) (fun M11 _ h_M11 => ?_)
  have h_M11 : OKb (fT s) M11 := h_M11
  have n_5 : ((0 : Int32)).toInt = 0 := rfl
  refine Sf.i (fun c_6 => ?_) (fun c_6 => ?_)
  · have c_6 := i_eq.mp c_6
    refine Sf.k (ok_in (by omega) (by omega)) ?_
    exact Sf.ok ⟨h_M11, (i_rng _)⟩
  · have c_6 := i_ne c_6
    refine Sf.k (ok_in (by omega) (by omega)) ?_
    exact Sf.ok ⟨h_M11, (i_rng _)⟩
set_option maxHeartbeats 2000000 in
theorem sX6_isSymmetric {s : Nat → Int × Int} {M : Mem} (h_M : OKb (fT s) M) : Sf (mX6_isSymmetric 0 M) (pI (0) (1)) := by
  unfold mX6_isSymmetric
  refine Sf.c (sX1_isSameFromOtherEnd isP_5 h_M) (fun r2 p_1 => ?_)
  obtain ⟨p_1a, p_1b⟩ := p_1
  refine Sf.k (isB_in ⟨by omega, by omega⟩) ?_
  have z_2 : (0 : Int) ≤ (r2).toInt ∧ (r2).toInt ≤ 1 := ⟨by omega, by omega⟩
  exact Sf.ok z_2
set_option maxHeartbeats 2000000 in
theorem sX6_longestLeg_b49 {s : Nat → Int × Int} {M : Mem} {ih4 : Int32 → Int32 → Option Int32} {x1 : Int32} {x2 : Int32} {d4 : Nat} (h_M : OKb (fT s) M) (hx1 : (0 : Int) ≤ (x1).toInt ∧ (x1).toInt ≤ 8) (hx2 : (0 : Int) ≤ (x2).toInt ∧ (x2).toInt ≤ 8) (he0 : (1 : Int) ≤ (rd M 5 0).toInt ∧ (rd M 5 0).toInt ≤ 9) (hih4 : ∀ (yx1 : Int32) (yx2 : Int32), ((-1 : Int) ≤ (yx1).toInt ∧ (yx1).toInt ≤ 8) → ((0 : Int) ≤ (yx2).toInt ∧ (yx2).toInt ≤ 9) → 9 - (yx2).toInt < d4 → Sf (ih4 yx1 yx2) (pI (-1) (8))) (hmu4 : 9 - (x2).toInt ≤ d4) : Sf (mX6_longestLeg_b49 0 M ih4 x1 x2) (pI (-1) (8)) := by
  unfold mX6_longestLeg_b49
  have n_1 : ((1 : Int32)).toInt = 1 := rfl
  try have a_2 : ((x2 + (1 : Int32))).toInt = (x2).toInt + ((1 : Int32)).toInt := i_add (by omega) (by omega)
  refine Sf.b (fun x2_49 e_x2_49 => ?_)
  have d_x2_49 := congrArg Int32.toInt e_x2_49
  exact (hih4 _ _ ⟨by omega, by omega⟩ ⟨by omega, by omega⟩ (by omega))
set_option maxHeartbeats 2000000 in
theorem sX6_longestLeg_b47 {s : Nat → Int × Int} {M : Mem} {ih4 : Int32 → Int32 → Option Int32} {x2 : Int32} {d4 : Nat} (h_M : OKb (fT s) M) (hx2 : (0 : Int) ≤ (x2).toInt ∧ (x2).toInt ≤ 8) (he0 : (1 : Int) ≤ (rd M 5 0).toInt ∧ (rd M 5 0).toInt ≤ 9) (hih4 : ∀ (yx1 : Int32) (yx2 : Int32), ((-1 : Int) ≤ (yx1).toInt ∧ (yx1).toInt ≤ 8) → ((0 : Int) ≤ (yx2).toInt ∧ (yx2).toInt ≤ 9) → 9 - (yx2).toInt < d4 → Sf (ih4 yx1 yx2) (pI (-1) (8))) (hmu4 : 9 - (x2).toInt ≤ d4) : Sf (mX6_longestLeg_b47 0 M ih4 x2) (pI (-1) (8)) := by
  unfold mX6_longestLeg_b47
  have b_1 : (0 : Int) ≤ (rd M 5 0).toInt ∧ (rd M 5 0).toInt ≤ 9 := h_M.at rfl
  exact (sX6_longestLeg_b49 h_M ⟨by omega, by omega⟩ ⟨by omega, by omega⟩ ⟨by omega, by omega⟩ hih4 (by omega))
set_option maxHeartbeats 2000000 in
theorem sX6_longestLeg_b4 {s : Nat → Int × Int} {M : Mem} {ih4 : Int32 → Int32 → Option Int32} {x1 : Int32} {x2 : Int32} {d4 : Nat} (h_M : OKb (fT s) M) (hx1 : (-1 : Int) ≤ (x1).toInt ∧ (x1).toInt ≤ 8) (hx2 : (0 : Int) ≤ (x2).toInt ∧ (x2).toInt ≤ 9) (hih4 : ∀ (yx1 : Int32) (yx2 : Int32), ((-1 : Int) ≤ (yx1).toInt ∧ (yx1).toInt ≤ 8) → ((0 : Int) ≤ (yx2).toInt ∧ (yx2).toInt ≤ 9) → 9 - (yx2).toInt < d4 → Sf (ih4 yx1 yx2) (pI (-1) (8))) (hmu4 : 9 - (x2).toInt ≤ d4) : Sf (mX6_longestLeg_b4 0 M ih4 x1 x2) (pI (-1) (8)) := by
  unfold mX6_longestLeg_b4
  have b_1 : (0 : Int) ≤ (rd M 5 0).toInt ∧ (rd M 5 0).toInt ≤ 9 := h_M.at rfl
  refine Sf.i (fun c_2 => ?_) (fun c_2 => ?_)
  · have c_2 := i_le.mp c_2
    have z_3 : (-1 : Int) ≤ (x1).toInt ∧ (x1).toInt ≤ 8 := ⟨by omega, by omega⟩
    exact Sf.ok z_3
  · have c_2 := i_nle c_2
    have n_4 : ((9 : Int32)).toInt = 9 := rfl
    refine Sf.i (fun c_5 => ?_) (fun c_5 => ?_)
    · have c_5 := i_le.mp c_5
      exfalso; omega
    · have c_5 := i_nle c_5
      have n_6 : (((-1) : Int32)).toInt = -1 := rfl
      refine Sf.i (fun c_7 => ?_) (fun c_7 => ?_)
      · have c_7 := i_eq.mp c_7
        exact (sX6_longestLeg_b47 h_M ⟨by omega, by omega⟩ ⟨by omega, by omega⟩ hih4 (by omega))
      · have c_7 := i_ne c_7
        refine Sf.k (ok_in (by omega) (by omega)) ?_
        refine Sf.k (ok_in (by omega) (by omega)) ?_
        have b_8 : (0 : Int) ≤ (rd M (5 + 1) ((x2).toNatClampNeg)).toInt ∧ (rd M (5 + 1) ((x2).toNatClampNeg)).toInt ≤ 9999 := h_M.at rfl
        have b_9 : (0 : Int) ≤ (rd M (5 + 1) ((x1).toNatClampNeg)).toInt ∧ (rd M (5 + 1) ((x1).toNatClampNeg)).toInt ≤ 9999 := h_M.at rfl
        refine Sf.i (fun c_10 => ?_) (fun c_10 => ?_)
        · have c_10 := i_le.mp c_10
          exact (sX6_longestLeg_b49 h_M ⟨by omega, by omega⟩ ⟨by omega, by omega⟩ ⟨by omega, by omega⟩ hih4 (by omega))
        · have c_10 := i_nle c_10
          exact (sX6_longestLeg_b47 h_M ⟨by omega, by omega⟩ ⟨by omega, by omega⟩ hih4 (by omega))
theorem sX6_longestLeg_l4_n {s : Nat → Int × Int}  {M : Mem}  (h_M : OKb (fT s) M)   : ∀ (n : Nat) (x1 : Int32) (x2 : Int32) (hx1 : (-1 : Int) ≤ (x1).toInt ∧ (x1).toInt ≤ 8) (hx2 : (0 : Int) ≤ (x2).toInt ∧ (x2).toInt ≤ 9)   (hmu : 9 - (x2).toInt < n), Sf (mX6_longestLeg_l4 0 M n x1 x2) (pI (-1) (8)) := by
  intro n
  induction n with
  | zero => intro x1 x2 hx1 hx2 hmu; exfalso; omega
  | succ n IH => intro x1 x2 hx1 hx2 hmu; exact sX6_longestLeg_b4  h_M hx1 hx2    IH (by omega)
theorem sX6_longestLeg_l4 {s : Nat → Int × Int}  {M : Mem} {x1 : Int32} {x2 : Int32}  (h_M : OKb (fT s) M) (hx1 : (-1 : Int) ≤ (x1).toInt ∧ (x1).toInt ≤ 8) (hx2 : (0 : Int) ≤ (x2).toInt ∧ (x2).toInt ≤ 9)    (hmu : 9 - (x2).toInt < 5000) : Sf (mX6_longestLeg_l4 0 M 5000 x1 x2) (pI (-1) (8)) :=
  sX6_longestLeg_l4_n  h_M   5000 _ _ hx1 hx2   hmu
set_option maxHeartbeats 2000000 in
theorem sX6_longestLeg {s : Nat → Int × Int} {M : Mem} (h_M : OKb (fT s) M) : Sf (mX6_longestLeg 0 M) (pI (-1) (8)) := by
  unfold mX6_longestLeg
  have n_1 : (((-1) : Int32)).toInt = -1 := rfl
  have n_2 : ((0 : Int32)).toInt = 0 := rfl
  exact (sX6_longestLeg_l4 h_M ⟨by omega, by omega⟩ ⟨by omega, by omega⟩ (by omega))
set_option maxHeartbeats 2000000 in
theorem sX6_made {s : Nat → Int × Int} {M : Mem} (h_M : OKb (fT s) M) : Sf (mX6_made 0 M) (pI (0) (255)) := by
  unfold mX6_made
  have b_1 : (0 : Int) ≤ (rd M 5 13).toInt ∧ (rd M 5 13).toInt ≤ 255 := h_M.at rfl
  have z_2 : (0 : Int) ≤ ((rd M 5 13)).toInt ∧ ((rd M 5 13)).toInt ≤ 255 := ⟨by omega, by omega⟩
  exact Sf.ok z_2
set_option maxHeartbeats 2000000 in
theorem sX6_steps {s : Nat → Int × Int} {M : Mem} (h_M : OKb (fT s) M) : Sf (mX6_steps 0 M) (pI (0) (8)) := by
  unfold mX6_steps
  have b_1 : (0 : Int) ≤ (rd M 5 14).toInt ∧ (rd M 5 14).toInt ≤ 8 := h_M.at rfl
  have z_2 : (0 : Int) ≤ ((rd M 5 14)).toInt ∧ ((rd M 5 14)).toInt ≤ 8 := ⟨by omega, by omega⟩
  exact Sf.ok z_2
set_option maxHeartbeats 2000000 in
theorem sX6_step_b21 {s : Nat → Int × Int} {M : Mem} (h_M : OKb (fT s) M) : Sf (mX6_step_b21 0 M) (pX (fT s) (rI (-2147483648) (2147483647)) [0, 1]) := by
  unfold mX6_step_b21
  exact Sf.ok ⟨h_M, show (1 : Nat) ∈ [0, 1] from by decide⟩
set_option maxHeartbeats 2000000 in
theorem sX6_step {s : Nat → Int × Int} {x1 : Int32} {x2 : Int32} {M : Mem} (h_M : OKb (fT s) M) : Sf (mX6_step 0 x1 x2 M) (pX (fT s) (rI (-2147483648) (2147483647)) [0, 1]) := by
  unfold mX6_step
  have n_1 : ((0 : Int32)).toInt = 0 := rfl
  refine Sf.i (fun c_2 => ?_) (fun c_2 => ?_)
  · have c_2 := i_lt.mp c_2
    exact (sX6_step_b21 h_M)
  · have c_2 := i_nlt c_2
    have b_3 : (0 : Int) ≤ (rd M 5 14).toInt ∧ (rd M 5 14).toInt ≤ 8 := h_M.at rfl
    refine Sf.i (fun c_4 => ?_) (fun c_4 => ?_)
    · have c_4 := i_le.mp c_4
      exact (sX6_step_b21 h_M)
    · have c_4 := i_nle c_4
      have n_5 : ((8 : Int32)).toInt = 8 := rfl
      refine Sf.i (fun c_6 => ?_) (fun c_6 => ?_)
      · have c_6 := i_lt.mp c_6
        have n_7 : ((3 : Int32)).toInt = 3 := rfl
        refine Sf.x (sX6_requireChoice h_M ⟨by omega, by omega⟩) (fun M6 _ p_8 => ?_) (fun M e h => ⟨h.1, mem_sub (by decide) h.2⟩)
        have h_M6 : OKb (fT s) M6 := p_8.1
        have p_8h : ((0 : Int) ≤ (x2).toInt ∧ (x2).toInt ≤ ((3 : Int32)).toInt) := p_8.2
        have n_9 : ((0 : Int32)).toInt = 0 := rfl
        refine Sf.i (fun c_10 => ?_) (fun c_10 => ?_)
        · have c_10 := i_eq.mp c_10
          refine Sf.k (ok_in (by omega) (by omega)) ?_
          exact Sf.ok ⟨h_M6, (i_rng _)⟩
        · have c_10 := i_ne c_10
          have n_11 : ((1 : Int32)).toInt = 1 := rfl
          refine Sf.i (fun c_12 => ?_) (fun c_12 => ?_)
          · have c_12 := i_eq.mp c_12
            refine Sf.k (ok_in (by omega) (by omega)) ?_
            exact Sf.ok ⟨h_M6, (i_rng _)⟩
          · have c_12 := i_ne c_12
            have n_13 : ((2 : Int32)).toInt = 2 := rfl
            refine Sf.i (fun c_14 => ?_) (fun c_14 => ?_)
            · have c_14 := i_eq.mp c_14
              refine Sf.k (ok_in (by omega) (by omega)) ?_
              exact Sf.ok ⟨h_M6, (i_rng _)⟩
            · have c_14 := i_ne c_14
              refine Sf.k (ok_in (by omega) (by omega)) ?_
              exact Sf.ok ⟨h_M6, (i_rng _)⟩
      · have c_6 := i_nlt c_6
        exfalso; omega
set_option maxHeartbeats 2000000 in
theorem sX6_costSoFar {s : Nat → Int × Int} {M : Mem} (h_M : OKb (fT s) M) : Sf (mX6_costSoFar 0 M) (pI (-2147483648) (2147483647)) := by
  unfold mX6_costSoFar
  refine Sf.c (sX1_sumOfCosts isP_5 h_M) (fun r2 p_1 => ?_)
  obtain ⟨p_1a, p_1b⟩ := p_1
  exact Sf.ok (i_rng _)
set_option maxHeartbeats 2000000 in
theorem sX6_requireStep {s : Nat → Int × Int} {x1 : Int32} {x2 : Int32} {M : Mem} (h_M : OKb (fT s) M) : Sf (mX6_requireStep 0 x1 x2 M) (pX (fT s) (fun _ => ((0 : Int) ≤ (x1).toInt ∧ (x1).toInt ≤ 7) ∧ ((0 : Int) ≤ (x2).toInt ∧ (x2).toInt ≤ 1)) [0, 1]) := by
  unfold mX6_requireStep
  refine Sf.x (sX6_requireBend h_M) (fun M3 _ p_1 => ?_) (fun M e h => ⟨h.1, mem_sub (by decide) h.2⟩)
  have h_M3 : OKb (fT s) M3 := p_1.1
  have p_1h : ((0 : Int) ≤ (x1).toInt ∧ (x1).toInt ≤ 7) := p_1.2
  have n_2 : ((1 : Int32)).toInt = 1 := rfl
  refine Sf.x (sX6_requireChoice h_M3 ⟨by omega, by omega⟩) (fun M7 _ p_3 => ?_) (fun M e h => ⟨h.1, mem_sub (by decide) h.2⟩)
  have h_M7 : OKb (fT s) M7 := p_3.1
  have p_3h : ((0 : Int) ≤ (x2).toInt ∧ (x2).toInt ≤ ((1 : Int32)).toInt) := p_3.2
  exact Sf.ok ⟨h_M7, by omega⟩
set_option maxHeartbeats 2000000 in
theorem sX6_reasonNow {s : Nat → Int × Int} {x1 : Int32} {M : Mem} (h_M : OKb (fT s) M) (hx1 : (0 : Int) ≤ (x1).toInt ∧ (x1).toInt ≤ 15) : Sf (mX6_reasonNow 0 x1 M) (pMI (fT s) (0) (6)) := by
  unfold mX6_reasonNow
  have b_1 : (0 : Int) ≤ (rd M 5 13).toInt ∧ (rd M 5 13).toInt ≤ 255 := h_M.at rfl
  refine Sf.m (sX2_reasonFor isL_103 isP_5 h_M ⟨by omega, by omega⟩ ⟨by omega, by omega⟩) (fun M3 r2 p_2 => ?_)
  have h_M3 : OKb (fT s) M3 := p_2.1
  have p_2 : (0 : Int) ≤ (r2).toInt ∧ (r2).toInt ≤ (6 : Int) := p_2.2
  have z_3 : (0 : Int) ≤ (r2).toInt ∧ (r2).toInt ≤ 6 := ⟨by omega, by omega⟩
  exact Sf.ok ⟨h_M3, z_3⟩
set_option maxHeartbeats 2000000 in
theorem sX6_reason {s : Nat → Int × Int} {x1 : Int32} {x2 : Int32} {M : Mem} (h_M : OKb (fT s) M) : Sf (mX6_reason 0 x1 x2 M) (pX (fT s) (rI (0) (6)) [0, 1]) := by
  unfold mX6_reason
  refine Sf.x (sX6_requireStep h_M) (fun M3 _ p_1 => ?_) (fun M e h => ⟨h.1, h.2⟩)
  have h_M3 : OKb (fT s) M3 := p_1.1
  have p_1h : ((0 : Int) ≤ (x1).toInt ∧ (x1).toInt ≤ 7) ∧ ((0 : Int) ≤ (x2).toInt ∧ (x2).toInt ≤ 1) := p_1.2
  have n_2 : ((2 : Int32)).toInt = 2 := rfl
  try have a_3 : (((2 : Int32) * x1)).toInt = 2 * (x1).toInt := i_mulc (by omega) (by omega) (by omega)
  try have a_4 : ((((2 : Int32) * x1) + x2)).toInt = (((2 : Int32) * x1)).toInt + (x2).toInt := i_add (by omega) (by omega)
  refine Sf.m (sX6_reasonNow h_M3 ⟨by omega, by omega⟩) (fun M7 r6 p_5 => ?_)
  have h_M7 : OKb (fT s) M7 := p_5.1
  have p_5 : (0 : Int) ≤ (r6).toInt ∧ (r6).toInt ≤ (6 : Int) := p_5.2
  have z_6 : (0 : Int) ≤ (r6).toInt ∧ (r6).toInt ≤ 6 := ⟨by omega, by omega⟩
  exact Sf.ok ⟨h_M7, z_6⟩
set_option maxHeartbeats 2000000 in
theorem sX6_gaugeNow {s : Nat → Int × Int} {x1 : Int32} {M : Mem} (h_M : OKb (fT s) M) (hx1 : (0 : Int) ≤ (x1).toInt ∧ (x1).toInt ≤ 15) : Sf (mX6_gaugeNow 0 x1 M) (pMI (fT s) (0) (2147483647)) := by
  unfold mX6_gaugeNow
  have b_1 : (0 : Int) ≤ (rd M 5 13).toInt ∧ (rd M 5 13).toInt ≤ 255 := h_M.at rfl
  refine Sf.m (sX2_layStep isL_103 isP_5 h_M ⟨by omega, by omega⟩ ⟨by omega, by omega⟩) (fun M3 _ h_M3 => ?_)
  have h_M3 : OKb (fT s) M3 := h_M3
  refine Sf.c (sX2_reachToBack isL_103 h_M3) (fun r5 p_3 => ?_)
  obtain ⟨p_3a, p_3b⟩ := p_3
  have z_4 : (0 : Int) ≤ (r5).toInt ∧ (r5).toInt ≤ 2147483647 := ⟨by omega, by omega⟩
  exact Sf.ok ⟨h_M3, z_4⟩
set_option maxHeartbeats 2000000 in
theorem sX6_gauge {s : Nat → Int × Int} {x1 : Int32} {x2 : Int32} {M : Mem} (h_M : OKb (fT s) M) : Sf (mX6_gauge 0 x1 x2 M) (pX (fT s) (rI (0) (2147483647)) [0, 1]) := by
  unfold mX6_gauge
  refine Sf.x (sX6_requireStep h_M) (fun M3 _ p_1 => ?_) (fun M e h => ⟨h.1, h.2⟩)
  have h_M3 : OKb (fT s) M3 := p_1.1
  have p_1h : ((0 : Int) ≤ (x1).toInt ∧ (x1).toInt ≤ 7) ∧ ((0 : Int) ≤ (x2).toInt ∧ (x2).toInt ≤ 1) := p_1.2
  have n_2 : ((2 : Int32)).toInt = 2 := rfl
  try have a_3 : (((2 : Int32) * x1)).toInt = 2 * (x1).toInt := i_mulc (by omega) (by omega) (by omega)
  try have a_4 : ((((2 : Int32) * x1) + x2)).toInt = (((2 : Int32) * x1)).toInt + (x2).toInt := i_add (by omega) (by omega)
  refine Sf.m (sX6_gaugeNow h_M3 ⟨by omega, by omega⟩) (fun M7 r6 p_5 => ?_)
  have h_M7 : OKb (fT s) M7 := p_5.1
  have p_5 : (0 : Int) ≤ (r6).toInt ∧ (r6).toInt ≤ (2147483647 : Int) := p_5.2
  have z_6 : (0 : Int) ≤ (r6).toInt ∧ (r6).toInt ≤ 2147483647 := ⟨by omega, by omega⟩
  exact Sf.ok ⟨h_M7, z_6⟩
set_option maxHeartbeats 2000000 in
theorem sX6_corner {s : Nat → Int × Int} {x1 : Int32} {x2 : Int32} {x3 : Int32} {x4 : Int32} {M : Mem} (h_M : OKb (fT s) M) : Sf (mX6_corner 0 x1 x2 x3 x4 M) (pX (fT s) (rI (-2147483648) (2147483647)) [0, 1]) := by
  unfold mX6_corner
  refine Sf.x (sX6_requireBend h_M) (fun M3 _ p_1 => ?_) (fun M e h => ⟨h.1, mem_sub (by decide) h.2⟩)
  have h_M3 : OKb (fT s) M3 := p_1.1
  have p_1h : ((0 : Int) ≤ (x1).toInt ∧ (x1).toInt ≤ 7) := p_1.2
  refine Sf.x (sX6_requireLeg h_M3) (fun M7 _ p_2 => ?_) (fun M e h => ⟨h.1, mem_sub (by decide) h.2⟩)
  have h_M7 : OKb (fT s) M7 := p_2.1
  have p_2h : ((0 : Int) ≤ (x3).toInt ∧ (x3).toInt ≤ 8) := p_2.2
  have n_3 : ((1 : Int32)).toInt = 1 := rfl
  refine Sf.x (sX6_requireChoice h_M7 ⟨by omega, by omega⟩) (fun M11 _ p_4 => ?_) (fun M e h => ⟨h.1, mem_sub (by decide) h.2⟩)
  have h_M11 : OKb (fT s) M11 := p_4.1
  have p_4h : ((0 : Int) ≤ (x2).toInt ∧ (x2).toInt ≤ ((1 : Int32)).toInt) := p_4.2
  refine Sf.x (sX6_requireChoice h_M11 ⟨by omega, by omega⟩) (fun M15 _ p_5 => ?_) (fun M e h => ⟨h.1, mem_sub (by decide) h.2⟩)
  have h_M15 : OKb (fT s) M15 := p_5.1
  have p_5h : ((0 : Int) ≤ (x4).toInt ∧ (x4).toInt ≤ ((1 : Int32)).toInt) := p_5.2
  have b_6 : (0 : Int) ≤ (rd M15 5 13).toInt ∧ (rd M15 5 13).toInt ≤ 255 := h_M15.at rfl
  have n_7 : ((2 : Int32)).toInt = 2 := rfl
  try have a_8 : (((2 : Int32) * x1)).toInt = 2 * (x1).toInt := i_mulc (by omega) (by omega) (by omega)
  try have a_9 : ((((2 : Int32) * x1) + x2)).toInt = (((2 : Int32) * x1)).toInt + (x2).toInt := i_add (by omega) (by omega)
  refine Sf.m (sX2_layStep isL_103 isP_5 h_M15 ⟨by omega, by omega⟩ ⟨by omega, by omega⟩) (fun M19 _ h_M19 => ?_)
  have h_M19 : OKb (fT s) M19 := h_M19
  have n_11 : ((0 : Int32)).toInt = 0 := rfl
  refine Sf.i (fun c_12 => ?_) (fun c_12 => ?_)
  · have c_12 := i_eq.mp c_12
    refine Sf.k (ok_in (by omega) (by omega)) ?_
    exact Sf.ok ⟨h_M19, (i_rng _)⟩
  · have c_12 := i_ne c_12
    refine Sf.k (ok_in (by omega) (by omega)) ?_
    exact Sf.ok ⟨h_M19, (i_rng _)⟩
set_option maxHeartbeats 2000000 in
theorem sX6_top {s : Nat → Int × Int} {x1 : Int32} {x2 : Int32} {M : Mem} (h_M : OKb (fT s) M) : Sf (mX6_top 0 x1 x2 M) (pX (fT s) (rI (0) (2147483647)) [0, 1]) := by
  unfold mX6_top
  refine Sf.x (sX6_requireStep h_M) (fun M3 _ p_1 => ?_) (fun M e h => ⟨h.1, h.2⟩)
  have h_M3 : OKb (fT s) M3 := p_1.1
  have p_1h : ((0 : Int) ≤ (x1).toInt ∧ (x1).toInt ≤ 7) ∧ ((0 : Int) ≤ (x2).toInt ∧ (x2).toInt ≤ 1) := p_1.2
  have b_2 : (0 : Int) ≤ (rd M3 5 13).toInt ∧ (rd M3 5 13).toInt ≤ 255 := h_M3.at rfl
  have n_3 : ((2 : Int32)).toInt = 2 := rfl
  try have a_4 : (((2 : Int32) * x1)).toInt = 2 * (x1).toInt := i_mulc (by omega) (by omega) (by omega)
  try have a_5 : ((((2 : Int32) * x1) + x2)).toInt = (((2 : Int32) * x1)).toInt + (x2).toInt := i_add (by omega) (by omega)
  refine Sf.m (sX2_layStep isL_103 isP_5 h_M3 ⟨by omega, by omega⟩ ⟨by omega, by omega⟩) (fun M7 _ h_M7 => ?_)
  have h_M7 : OKb (fT s) M7 := h_M7
  refine Sf.c (sX2_topOfFreeSide isL_103 h_M7) (fun r9 p_7 => ?_)
  obtain ⟨p_7a, p_7b⟩ := p_7
  have z_8 : (0 : Int) ≤ (r9).toInt ∧ (r9).toInt ≤ 2147483647 := ⟨by omega, by omega⟩
  exact Sf.ok ⟨h_M7, z_8⟩
set_option maxHeartbeats 2000000 in
theorem sX6_hitting {s : Nat → Int × Int} {x1 : Int32} {x2 : Int32} {M : Mem} (h_M : OKb (fT s) M) : Sf (mX6_hitting 0 x1 x2 M) (pX (fT s) (rI (0) (4095)) [0, 1]) := by
  unfold mX6_hitting
  refine Sf.x (sX6_requireStep h_M) (fun M3 _ p_1 => ?_) (fun M e h => ⟨h.1, h.2⟩)
  have h_M3 : OKb (fT s) M3 := p_1.1
  have p_1h : ((0 : Int) ≤ (x1).toInt ∧ (x1).toInt ≤ 7) ∧ ((0 : Int) ≤ (x2).toInt ∧ (x2).toInt ≤ 1) := p_1.2
  have b_2 : (0 : Int) ≤ (rd M3 5 13).toInt ∧ (rd M3 5 13).toInt ≤ 255 := h_M3.at rfl
  have n_3 : ((2 : Int32)).toInt = 2 := rfl
  try have a_4 : (((2 : Int32) * x1)).toInt = 2 * (x1).toInt := i_mulc (by omega) (by omega) (by omega)
  try have a_5 : ((((2 : Int32) * x1) + x2)).toInt = (((2 : Int32) * x1)).toInt + (x2).toInt := i_add (by omega) (by omega)
  refine Sf.m (sX2_layStep isL_103 isP_5 h_M3 ⟨by omega, by omega⟩ ⟨by omega, by omega⟩) (fun M7 _ h_M7 => ?_)
  have h_M7 : OKb (fT s) M7 := h_M7
  refine Sf.c (sX2_legsHitting isL_103 isP_5 h_M7) (fun r9 p_7 => ?_)
  obtain ⟨p_7a, p_7b⟩ := p_7
  have z_8 : (0 : Int) ≤ (r9).toInt ∧ (r9).toInt ≤ 4095 := ⟨by omega, by omega⟩
  exact Sf.ok ⟨h_M7, z_8⟩
set_option maxHeartbeats 2000000 in
theorem sX6_refused_b11 {s : Nat → Int × Int} {M : Mem} (h_M : OKb (fT s) M) : Sf (mX6_refused_b11 0 M) (pX (fT s) (rI (-2147483648) (2147483647)) [0]) := by
  unfold mX6_refused_b11
  exact Sf.ok ⟨h_M, show (0 : Nat) ∈ [0] from by decide⟩
set_option maxHeartbeats 2000000 in
theorem sX6_refused_b50 {s : Nat → Int × Int} {ih25 : Int32 → Int32 → Int32 → Mem → Option (Mem × (Int32 ⊕ Nat))} {x1 : Int32} {x2 : Int32} {x3 : Int32} {M : Mem} {d25 : Nat} (h_M : OKb (fT s) M) (hx1 : (1 : Int) ≤ (x1).toInt ∧ (x1).toInt ≤ 6) (hx3 : (0 : Int) ≤ (x3).toInt ∧ (x3).toInt ≤ 15) (hih25 : ∀ (yx1 : Int32) (yx2 : Int32) (yx3 : Int32) (M : Mem), OKb (fT s) M → ((1 : Int) ≤ (yx1).toInt ∧ (yx1).toInt ≤ 6) → ((0 : Int) ≤ (yx3).toInt ∧ (yx3).toInt ≤ 16) → 16 - (yx3).toInt < d25 → Sf (ih25 yx1 yx2 yx3 M) (pX (fT s) (rI (-2147483648) (2147483647)) [0])) (hmu25 : 16 - (x3).toInt ≤ d25) : Sf (mX6_refused_b50 0 ih25 x1 x2 x3 M) (pX (fT s) (rI (-2147483648) (2147483647)) [0]) := by
  unfold mX6_refused_b50
  have n_1 : ((1 : Int32)).toInt = 1 := rfl
  try have a_2 : ((x3 + (1 : Int32))).toInt = (x3).toInt + ((1 : Int32)).toInt := i_add (by omega) (by omega)
  refine Sf.b (fun x3_50 e_x3_50 => ?_)
  have d_x3_50 := congrArg Int32.toInt e_x3_50
  exact (hih25 _ _ _ _ h_M ⟨by omega, by omega⟩ ⟨by omega, by omega⟩ (by omega))
set_option maxHeartbeats 2000000 in
theorem sX6_refused_b25 {s : Nat → Int × Int} {ih25 : Int32 → Int32 → Int32 → Mem → Option (Mem × (Int32 ⊕ Nat))} {x1 : Int32} {x2 : Int32} {x3 : Int32} {M : Mem} {d25 : Nat} (h_M : OKb (fT s) M) (hx1 : (1 : Int) ≤ (x1).toInt ∧ (x1).toInt ≤ 6) (hx3 : (0 : Int) ≤ (x3).toInt ∧ (x3).toInt ≤ 16) (hih25 : ∀ (yx1 : Int32) (yx2 : Int32) (yx3 : Int32) (M : Mem), OKb (fT s) M → ((1 : Int) ≤ (yx1).toInt ∧ (yx1).toInt ≤ 6) → ((0 : Int) ≤ (yx3).toInt ∧ (yx3).toInt ≤ 16) → 16 - (yx3).toInt < d25 → Sf (ih25 yx1 yx2 yx3 M) (pX (fT s) (rI (-2147483648) (2147483647)) [0])) (hmu25 : 16 - (x3).toInt ≤ d25) : Sf (mX6_refused_b25 0 ih25 x1 x2 x3 M) (pX (fT s) (rI (-2147483648) (2147483647)) [0]) := by
  unfold mX6_refused_b25
  refine Sf.c (sX1_bendCount isP_5 h_M) (fun r4 p_1 => ?_)
  obtain ⟨p_1a, p_1b⟩ := p_1
  have n_2 : ((2 : Int32)).toInt = 2 := rfl
  try have a_3 : (((2 : Int32) * r4)).toInt = 2 * (r4).toInt := i_mulc (by omega) (by omega) (by omega)
  refine Sf.i (fun c_4 => ?_) (fun c_4 => ?_)
  · have c_4 := i_le.mp c_4
    exact Sf.ok ⟨h_M, (i_rng _)⟩
  · have c_4 := i_nle c_4
    refine Sf.m (sX6_reasonNow h_M ⟨by omega, by omega⟩) (fun M9 r8 p_5 => ?_)
    have h_M9 : OKb (fT s) M9 := p_5.1
    have p_5 : (0 : Int) ≤ (r8).toInt ∧ (r8).toInt ≤ (6 : Int) := p_5.2
    refine Sf.i (fun c_6 => ?_) (fun c_6 => ?_)
    · have c_6 := i_eq.mp c_6
      have n_7 : ((1 : Int32)).toInt = 1 := rfl
      refine Sf.b (fun x2_47 e_x2_47 => ?_)
      have d_x2_47 := congrArg Int32.toInt e_x2_47
      exact (sX6_refused_b50 h_M9 ⟨by omega, by omega⟩ ⟨by omega, by omega⟩ hih25 (by omega))
    · have c_6 := i_ne c_6
      exact (sX6_refused_b50 h_M9 ⟨by omega, by omega⟩ ⟨by omega, by omega⟩ hih25 (by omega))
theorem sX6_refused_l25_n {s : Nat → Int × Int}    : ∀ (n : Nat) (x1 : Int32) (x2 : Int32) (x3 : Int32) (M : Mem) (h_M : OKb (fT s) M) (hx1 : (1 : Int) ≤ (x1).toInt ∧ (x1).toInt ≤ 6) (hx3 : (0 : Int) ≤ (x3).toInt ∧ (x3).toInt ≤ 16)    (hmu : 16 - (x3).toInt < n), Sf (mX6_refused_l25 0 n x1 x2 x3 M) (pX (fT s) (rI (-2147483648) (2147483647)) [0]) := by
  intro n
  induction n with
  | zero => intro x1 x2 x3 M h_M hx1 hx3 hmu; exfalso; omega
  | succ n IH => intro x1 x2 x3 M h_M hx1 hx3 hmu; exact sX6_refused_b25  h_M hx1 hx3    IH (by omega)
theorem sX6_refused_l25 {s : Nat → Int × Int}  {x1 : Int32} {x2 : Int32} {x3 : Int32} {M : Mem}  (h_M : OKb (fT s) M) (hx1 : (1 : Int) ≤ (x1).toInt ∧ (x1).toInt ≤ 6) (hx3 : (0 : Int) ≤ (x3).toInt ∧ (x3).toInt ≤ 16)    (hmu : 16 - (x3).toInt < 5000) : Sf (mX6_refused_l25 0 5000 x1 x2 x3 M) (pX (fT s) (rI (-2147483648) (2147483647)) [0]) :=
  sX6_refused_l25_n   5000 _ _ _ M h_M hx1 hx3    hmu
set_option maxHeartbeats 2000000 in
theorem sX6_refused {s : Nat → Int × Int} {x1 : Int32} {M : Mem} (h_M : OKb (fT s) M) : Sf (mX6_refused 0 x1 M) (pX (fT s) (rI (-2147483648) (2147483647)) [0]) := by
  unfold mX6_refused
  have n_1 : ((1 : Int32)).toInt = 1 := rfl
  refine Sf.i (fun c_2 => ?_) (fun c_2 => ?_)
  · have c_2 := i_lt.mp c_2
    exact (sX6_refused_b11 h_M)
  · have c_2 := i_nlt c_2
    have n_3 : ((6 : Int32)).toInt = 6 := rfl
    refine Sf.i (fun c_4 => ?_) (fun c_4 => ?_)
    · have c_4 := i_le.mp c_4
      have n_5 : ((0 : Int32)).toInt = 0 := rfl
      exact (sX6_refused_l25 h_M ⟨by omega, by omega⟩ ⟨by omega, by omega⟩ (by omega))
    · have c_4 := i_nle c_4
      exact (sX6_refused_b11 h_M)
set_option maxHeartbeats 2000000 in
theorem sX6_possible {s : Nat → Int × Int} {M : Mem} (h_M : OKb (fT s) M) : Sf (mX6_possible 0 M) (pMI (fT s) (0) (65535)) := by
  unfold mX6_possible
  have b_1 : (0 : Int) ≤ (rd M 5 13).toInt ∧ (rd M 5 13).toInt ≤ 255 := h_M.at rfl
  refine Sf.m (sX2_possibleSteps isL_103 isP_5 h_M ⟨by omega, by omega⟩) (fun M3 r2 p_2 => ?_)
  have h_M3 : OKb (fT s) M3 := p_2.1
  have p_2 : (0 : Int) ≤ (r2).toInt ∧ (r2).toInt ≤ (65535 : Int) := p_2.2
  have z_3 : (0 : Int) ≤ (r2).toInt ∧ (r2).toInt ≤ 65535 := ⟨by omega, by omega⟩
  exact Sf.ok ⟨h_M3, z_3⟩
set_option maxHeartbeats 2000000 in
theorem sX6_stuck_b73 {s : Nat → Int × Int} {ih23 : Int32 → Int32 → Int32 → Mem → Option (Mem × Int32)} {x1 : Int32} {x2 : Int32} {x3 : Int32} {M : Mem} {d23 : Nat} (h_M : OKb (fT s) M) (hx1 : (0 : Int) ≤ (x1).toInt ∧ (x1).toInt ≤ 65535) (hx3 : (0 : Int) ≤ (x3).toInt ∧ (x3).toInt ≤ 7) (hih23 : ∀ (yx1 : Int32) (yx2 : Int32) (yx3 : Int32) (M : Mem), OKb (fT s) M → ((0 : Int) ≤ (yx1).toInt ∧ (yx1).toInt ≤ 65535) → ((0 : Int) ≤ (yx3).toInt ∧ (yx3).toInt ≤ 8) → 8 - (yx3).toInt < d23 → Sf (ih23 yx1 yx2 yx3 M) (pMI (fT s) (-2147483648) (2147483647))) (hmu23 : 8 - (x3).toInt ≤ d23) : Sf (mX6_stuck_b73 0 ih23 x1 x2 x3 M) (pMI (fT s) (-2147483648) (2147483647)) := by
  unfold mX6_stuck_b73
  have n_1 : ((1 : Int32)).toInt = 1 := rfl
  try have a_2 : ((x3 + (1 : Int32))).toInt = (x3).toInt + ((1 : Int32)).toInt := i_add (by omega) (by omega)
  refine Sf.b (fun x3_73 e_x3_73 => ?_)
  have d_x3_73 := congrArg Int32.toInt e_x3_73
  exact (hih23 _ _ _ _ h_M ⟨by omega, by omega⟩ ⟨by omega, by omega⟩ (by omega))
set_option maxHeartbeats 2000000 in
theorem sX6_stuck_b53 {s : Nat → Int × Int} {ih23 : Int32 → Int32 → Int32 → Mem → Option (Mem × Int32)} {x1 : Int32} {x2 : Int32} {x3 : Int32} {y0 : Int32} {M : Mem} {d23 : Nat} (h_M : OKb (fT s) M) (hx1 : (0 : Int) ≤ (x1).toInt ∧ (x1).toInt ≤ 65535) (hx3 : (0 : Int) ≤ (x3).toInt ∧ (x3).toInt ≤ 7) (hy0 : (0 : Int) ≤ (y0).toInt ∧ (y0).toInt ≤ 1) (hih23 : ∀ (yx1 : Int32) (yx2 : Int32) (yx3 : Int32) (M : Mem), OKb (fT s) M → ((0 : Int) ≤ (yx1).toInt ∧ (yx1).toInt ≤ 65535) → ((0 : Int) ≤ (yx3).toInt ∧ (yx3).toInt ≤ 8) → 8 - (yx3).toInt < d23 → Sf (ih23 yx1 yx2 yx3 M) (pMI (fT s) (-2147483648) (2147483647))) (hmu23 : 8 - (x3).toInt ≤ d23) : Sf (mX6_stuck_b53 0 ih23 x1 x2 x3 y0 M) (pMI (fT s) (-2147483648) (2147483647)) := by
  unfold mX6_stuck_b53
  have n_1 : ((0 : Int32)).toInt = 0 := rfl
  refine Sf.i (fun c_2 => ?_) (fun c_2 => ?_)
  · have c_2 := i_eq.mp c_2
    try have a_3 := i_shr (a := x1) (b := ((2 : Int32) * x3)) (by omega)
    have n_4 : ((3 : Int32)).toInt = 3 := rfl
    try have a_5 := i_and (a := (x1 >>> (((2 : Int32) * x3) &&& 31))) (b := (3 : Int32)) (by omega)
    try have a_6 := i_andr (a := (x1 >>> (((2 : Int32) * x3) &&& 31))) (b := (3 : Int32)) (by omega)
    refine Sf.i (fun c_7 => ?_) (fun c_7 => ?_)
    · have c_7 := i_eq.mp c_7
      have n_8 : ((1 : Int32)).toInt = 1 := rfl
      refine Sf.b (fun x2_70 e_x2_70 => ?_)
      have d_x2_70 := congrArg Int32.toInt e_x2_70
      exact (sX6_stuck_b73 h_M ⟨by omega, by omega⟩ ⟨by omega, by omega⟩ hih23 (by omega))
    · have c_7 := i_ne c_7
      exact (sX6_stuck_b73 h_M ⟨by omega, by omega⟩ ⟨by omega, by omega⟩ hih23 (by omega))
  · have c_2 := i_ne c_2
    exact (sX6_stuck_b73 h_M ⟨by omega, by omega⟩ ⟨by omega, by omega⟩ hih23 (by omega))
set_option maxHeartbeats 2000000 in
theorem sX6_stuck_b23 {s : Nat → Int × Int} {ih23 : Int32 → Int32 → Int32 → Mem → Option (Mem × Int32)} {x1 : Int32} {x2 : Int32} {x3 : Int32} {M : Mem} {d23 : Nat} (h_M : OKb (fT s) M) (hx1 : (0 : Int) ≤ (x1).toInt ∧ (x1).toInt ≤ 65535) (hx3 : (0 : Int) ≤ (x3).toInt ∧ (x3).toInt ≤ 8) (hih23 : ∀ (yx1 : Int32) (yx2 : Int32) (yx3 : Int32) (M : Mem), OKb (fT s) M → ((0 : Int) ≤ (yx1).toInt ∧ (yx1).toInt ≤ 65535) → ((0 : Int) ≤ (yx3).toInt ∧ (yx3).toInt ≤ 8) → 8 - (yx3).toInt < d23 → Sf (ih23 yx1 yx2 yx3 M) (pMI (fT s) (-2147483648) (2147483647))) (hmu23 : 8 - (x3).toInt ≤ d23) : Sf (mX6_stuck_b23 0 ih23 x1 x2 x3 M) (pMI (fT s) (-2147483648) (2147483647)) := by
  unfold mX6_stuck_b23
  refine Sf.c (sX1_bendCount isP_5 h_M) (fun r5 p_1 => ?_)
  obtain ⟨p_1a, p_1b⟩ := p_1
  refine Sf.i (fun c_2 => ?_) (fun c_2 => ?_)
  · have c_2 := i_le.mp c_2
    exact Sf.ok ⟨h_M, (i_rng _)⟩
  · have c_2 := i_nle c_2
    have b_3 : (0 : Int) ≤ (rd M 5 13).toInt ∧ (rd M 5 13).toInt ≤ 255 := h_M.at rfl
    try have a_4 := i_shr (a := (rd M 5 13)) (b := x3) (by omega)
    have n_5 : ((1 : Int32)).toInt = 1 := rfl
    try have a_6 := i_and (a := ((rd M 5 13) >>> (x3 &&& 31))) (b := (1 : Int32)) (by omega)
    try have a_7 := i_andr (a := ((rd M 5 13) >>> (x3 &&& 31))) (b := (1 : Int32)) (by omega)
    have n_8 : ((0 : Int32)).toInt = 0 := rfl
    refine Sf.i (fun c_9 => ?_) (fun c_9 => ?_)
    · have c_9 := i_eq.mp c_9
      have n_10 : ((0 : Int32)).toInt = 0 := rfl
      exact (sX6_stuck_b53 h_M ⟨by omega, by omega⟩ ⟨by omega, by omega⟩ ⟨by omega, by omega⟩ hih23 (by omega))
    · have c_9 := i_ne c_9
      exact (sX6_stuck_b53 h_M ⟨by omega, by omega⟩ ⟨by omega, by omega⟩ ⟨by omega, by omega⟩ hih23 (by omega))
theorem sX6_stuck_l23_n {s : Nat → Int × Int}    : ∀ (n : Nat) (x1 : Int32) (x2 : Int32) (x3 : Int32) (M : Mem) (h_M : OKb (fT s) M) (hx1 : (0 : Int) ≤ (x1).toInt ∧ (x1).toInt ≤ 65535) (hx3 : (0 : Int) ≤ (x3).toInt ∧ (x3).toInt ≤ 8)    (hmu : 8 - (x3).toInt < n), Sf (mX6_stuck_l23 0 n x1 x2 x3 M) (pMI (fT s) (-2147483648) (2147483647)) := by
  intro n
  induction n with
  | zero => intro x1 x2 x3 M h_M hx1 hx3 hmu; exfalso; omega
  | succ n IH => intro x1 x2 x3 M h_M hx1 hx3 hmu; exact sX6_stuck_b23  h_M hx1 hx3    IH (by omega)
theorem sX6_stuck_l23 {s : Nat → Int × Int}  {x1 : Int32} {x2 : Int32} {x3 : Int32} {M : Mem}  (h_M : OKb (fT s) M) (hx1 : (0 : Int) ≤ (x1).toInt ∧ (x1).toInt ≤ 65535) (hx3 : (0 : Int) ≤ (x3).toInt ∧ (x3).toInt ≤ 8)    (hmu : 8 - (x3).toInt < 5000) : Sf (mX6_stuck_l23 0 5000 x1 x2 x3 M) (pMI (fT s) (-2147483648) (2147483647)) :=
  sX6_stuck_l23_n   5000 _ _ _ M h_M hx1 hx3    hmu
set_option maxHeartbeats 2000000 in
theorem sX6_stuck {s : Nat → Int × Int} {M : Mem} (h_M : OKb (fT s) M) : Sf (mX6_stuck 0 M) (pMI (fT s) (-2147483648) (2147483647)) := by
  unfold mX6_stuck
  have b_1 : (0 : Int) ≤ (rd M 5 13).toInt ∧ (rd M 5 13).toInt ≤ 255 := h_M.at rfl
  refine Sf.m (sX2_possibleSteps isL_103 isP_5 h_M ⟨by omega, by omega⟩) (fun M3 r2 p_2 => ?_)
  have h_M3 : OKb (fT s) M3 := p_2.1
  have p_2 : (0 : Int) ≤ (r2).toInt ∧ (r2).toInt ≤ (65535 : Int) := p_2.2
  have n_3 : ((0 : Int32)).toInt = 0 := rfl
  exact (sX6_stuck_l23 h_M3 ⟨by omega, by omega⟩ ⟨by omega, by omega⟩ (by omega))
set_option maxHeartbeats 2000000 in
theorem sX6_costNow {s : Nat → Int × Int} {x1 : Int32} {M : Mem} (h_M : OKb (fT s) M) (hx1 : (0 : Int) ≤ (x1).toInt ∧ (x1).toInt ≤ 15) : Sf (mX6_costNow 0 x1 M) (pMI (fT s) (0) (297)) := by
  unfold mX6_costNow
  refine Sf.c (sX1_lastCode isP_5 h_M) (fun r2 p_1 => ?_)
  obtain ⟨p_1a, p_1b⟩ := p_1
  refine Sf.c (sX1_lastGauge isP_5 h_M) (fun r5 p_2 => ?_)
  obtain ⟨p_2a, p_2b⟩ := p_2
  refine Sf.m (sX6_gaugeNow h_M ⟨by omega, by omega⟩) (fun M9 r8 p_3 => ?_)
  have h_M9 : OKb (fT s) M9 := p_3.1
  have p_3 : (0 : Int) ≤ (r8).toInt ∧ (r8).toInt ≤ (2147483647 : Int) := p_3.2
  have g_4 := i_rng r8
  refine Sf.c (sX1_priceBetween isP_5 h_M9 ⟨by omega, by omega⟩ ⟨by omega, by omega⟩ ⟨by omega, by omega⟩) (fun r11 p_5 => ?_)
  obtain ⟨p_5a, p_5b⟩ := p_5
  have z_6 : (0 : Int) ≤ (r11).toInt ∧ (r11).toInt ≤ 297 := ⟨by omega, by omega⟩
  exact Sf.ok ⟨h_M9, z_6⟩
set_option maxHeartbeats 2000000 in
theorem sX6_costOf {s : Nat → Int × Int} {x1 : Int32} {x2 : Int32} {M : Mem} (h_M : OKb (fT s) M) : Sf (mX6_costOf 0 x1 x2 M) (pX (fT s) (rI (0) (297)) [0, 1]) := by
  unfold mX6_costOf
  refine Sf.x (sX6_requireStep h_M) (fun M3 _ p_1 => ?_) (fun M e h => ⟨h.1, h.2⟩)
  have h_M3 : OKb (fT s) M3 := p_1.1
  have p_1h : ((0 : Int) ≤ (x1).toInt ∧ (x1).toInt ≤ 7) ∧ ((0 : Int) ≤ (x2).toInt ∧ (x2).toInt ≤ 1) := p_1.2
  have n_2 : ((2 : Int32)).toInt = 2 := rfl
  try have a_3 : (((2 : Int32) * x1)).toInt = 2 * (x1).toInt := i_mulc (by omega) (by omega) (by omega)
  try have a_4 : ((((2 : Int32) * x1) + x2)).toInt = (((2 : Int32) * x1)).toInt + (x2).toInt := i_add (by omega) (by omega)
  refine Sf.m (sX6_costNow h_M3 ⟨by omega, by omega⟩) (fun M7 r6 p_5 => ?_)
  have h_M7 : OKb (fT s) M7 := p_5.1
  have p_5 : (0 : Int) ≤ (r6).toInt ∧ (r6).toInt ≤ (297 : Int) := p_5.2
  have z_6 : (0 : Int) ≤ (r6).toInt ∧ (r6).toInt ≤ 297 := ⟨by omega, by omega⟩
  exact Sf.ok ⟨h_M7, z_6⟩
set_option maxHeartbeats 2000000 in
theorem sX6_orders {s : Nat → Int × Int} {M : Mem} (h_M : OKb (fT s) M) : Sf (mX6_orders 0 M) (pM (fT s)) := by
  unfold mX6_orders
  refine Sf.m (sX3_prepare isP_5 h_M) (fun M3 _ h_M3 => ?_)
  have h_M3 : OKb (fT s) M3 := h_M3
  have b_2 : (0 : Int) ≤ (rd M3 5 13).toInt ∧ (rd M3 5 13).toInt ≤ 255 := h_M3.at rfl
  refine Sf.c (sX3_ordersFrom h_M3 ⟨by omega, by omega⟩) (fun r5 _ => ?_)
  exact Sf.ok h_M3
set_option maxHeartbeats 2000000 in
theorem sX6_leastCost {s : Nat → Int × Int} {M : Mem} (h_M : OKb (fT s) M) : Sf (mX6_leastCost 0 M) (pMI (fT s) (-2147483648) (2147483647)) := by
  unfold mX6_leastCost
  refine Sf.m (sX3_prepare isP_5 h_M) (fun M3 _ h_M3 => ?_)
  have h_M3 : OKb (fT s) M3 := h_M3
  exact Sf.ok ⟨h_M3, (i_rng _)⟩
set_option maxHeartbeats 2000000 in
theorem sX6_plannedSteps {s : Nat → Int × Int} {M : Mem} (h_M : OKb (fT s) M) : Sf (mX6_plannedSteps 0 M) (pMI (fT s) (-1) (8)) := by
  unfold mX6_plannedSteps
  refine Sf.m (sX3_prepare isP_5 h_M) (fun M3 _ h_M3 => ?_)
  have h_M3 : OKb (fT s) M3 := h_M3
  have b_2 : (-1 : Int) ≤ (rd M3 110 3).toInt ∧ (rd M3 110 3).toInt ≤ 8 := h_M3.at rfl
  have z_3 : (-1 : Int) ≤ ((rd M3 110 3)).toInt ∧ ((rd M3 110 3)).toInt ≤ 8 := ⟨by omega, by omega⟩
  exact Sf.ok ⟨h_M3, z_3⟩
set_option maxHeartbeats 2000000 in
theorem sX6_planned_b32 {s : Nat → Int × Int} {M : Mem} (h_M : OKb (fT s) M) : Sf (mX6_planned_b32 0 M) (pX (fT s) (rI (0) (15)) [1]) := by
  unfold mX6_planned_b32
  exact Sf.ok ⟨h_M, show (1 : Nat) ∈ [1] from by decide⟩
set_option maxHeartbeats 2000000 in
theorem sX6_planned {s : Nat → Int × Int} {x1 : Int32} {M : Mem} (h_M : OKb (fT s) M) : Sf (mX6_planned 0 x1 M) (pX (fT s) (rI (0) (15)) [1]) := by
  unfold mX6_planned
  refine Sf.m (sX3_prepare isP_5 h_M) (fun M3 _ h_M3 => ?_)
  have h_M3 : OKb (fT s) M3 := h_M3
  have n_2 : ((0 : Int32)).toInt = 0 := rfl
  refine Sf.i (fun c_3 => ?_) (fun c_3 => ?_)
  · have c_3 := i_lt.mp c_3
    exact (sX6_planned_b32 h_M3)
  · have c_3 := i_nlt c_3
    have b_4 : (-1 : Int) ≤ (rd M3 110 3).toInt ∧ (rd M3 110 3).toInt ≤ 8 := h_M3.at rfl
    refine Sf.i (fun c_5 => ?_) (fun c_5 => ?_)
    · have c_5 := i_le.mp c_5
      exact (sX6_planned_b32 h_M3)
    · have c_5 := i_nle c_5
      have n_6 : ((8 : Int32)).toInt = 8 := rfl
      refine Sf.i (fun c_7 => ?_) (fun c_7 => ?_)
      · have c_7 := i_lt.mp c_7
        refine Sf.k (ok_in (by omega) (by omega)) ?_
        have b_8 : (0 : Int) ≤ (rd M3 (110 + 1) ((x1).toNatClampNeg)).toInt ∧ (rd M3 (110 + 1) ((x1).toNatClampNeg)).toInt ≤ 15 := h_M3.at rfl
        have z_9 : (0 : Int) ≤ ((rd M3 (110 + 1) ((x1).toNatClampNeg))).toInt ∧ ((rd M3 (110 + 1) ((x1).toNatClampNeg))).toInt ≤ 15 := ⟨by omega, by omega⟩
        exact Sf.ok ⟨h_M3, z_9⟩
      · have c_7 := i_nlt c_7
        exfalso; omega
set_option maxHeartbeats 2000000 in
theorem sX6_greatestCost {s : Nat → Int × Int} {M : Mem} (h_M : OKb (fT s) M) : Sf (mX6_greatestCost 0 M) (pMI (fT s) (-2147483648) (2147483647)) := by
  unfold mX6_greatestCost
  refine Sf.m (sX3_prepare isP_5 h_M) (fun M3 _ h_M3 => ?_)
  have h_M3 : OKb (fT s) M3 := h_M3
  exact Sf.ok ⟨h_M3, (i_rng _)⟩
set_option maxHeartbeats 2000000 in
theorem sX6_ordersWith {s : Nat → Int × Int} {x1 : Int32} {x2 : Int32} {M : Mem} (h_M : OKb (fT s) M) : Sf (mX6_ordersWith 0 x1 x2 M) (pX (fT s) rT [0, 1]) := by
  unfold mX6_ordersWith
  refine Sf.x (sX6_requireStep h_M) (fun M3 _ p_1 => ?_) (fun M e h => ⟨h.1, h.2⟩)
  have h_M3 : OKb (fT s) M3 := p_1.1
  have p_1h : ((0 : Int) ≤ (x1).toInt ∧ (x1).toInt ≤ 7) ∧ ((0 : Int) ≤ (x2).toInt ∧ (x2).toInt ≤ 1) := p_1.2
  have n_2 : ((2 : Int32)).toInt = 2 := rfl
  try have a_3 : (((2 : Int32) * x1)).toInt = 2 * (x1).toInt := i_mulc (by omega) (by omega) (by omega)
  try have a_4 : ((((2 : Int32) * x1) + x2)).toInt = (((2 : Int32) * x1)).toInt + (x2).toInt := i_add (by omega) (by omega)
  refine Sf.m (sX6_reasonNow h_M3 ⟨by omega, by omega⟩) (fun M7 r6 p_5 => ?_)
  have h_M7 : OKb (fT s) M7 := p_5.1
  have p_5 : (0 : Int) ≤ (r6).toInt ∧ (r6).toInt ≤ (6 : Int) := p_5.2
  have n_6 : ((0 : Int32)).toInt = 0 := rfl
  refine Sf.i (fun c_7 => ?_) (fun c_7 => ?_)
  · have c_7 := i_eq.mp c_7
    refine Sf.m (sX3_prepare isP_5 h_M7) (fun M11 _ h_M11 => ?_)
    have h_M11 : OKb (fT s) M11 := h_M11
    have b_9 : (0 : Int) ≤ (rd M11 5 13).toInt ∧ (rd M11 5 13).toInt ≤ 255 := h_M11.at rfl
    try have a_10 : 0 < (((1 : Int32) <<< (x1 &&& 31))).toInt ∧ (((1 : Int32) <<< (x1 &&& 31))).toInt ≤ 128 := i_shl 7 (by decide) ⟨by omega, by omega⟩
    try have a_11 : 0 ≤ (((rd M11 5 13) ||| ((1 : Int32) <<< (x1 &&& 31)))).toInt ∧ (((rd M11 5 13) ||| ((1 : Int32) <<< (x1 &&& 31)))).toInt < 256 := i_or 8 (by decide) ⟨by omega, by omega⟩ ⟨by omega, by omega⟩
    refine Sf.c (sX3_ordersFrom h_M11 ⟨by omega, by omega⟩) (fun r13 _ => ?_)
    exact Sf.ok ⟨h_M11, trivial⟩
  · have c_7 := i_ne c_7
    exact Sf.ok ⟨h_M7, trivial⟩
set_option maxHeartbeats 2000000 in
theorem sX6_lastSteps {s : Nat → Int × Int} {M : Mem} (h_M : OKb (fT s) M) : Sf (mX6_lastSteps 0 M) (pMI (fT s) (-2147483648) (2147483647)) := by
  unfold mX6_lastSteps
  refine Sf.m (sX3_prepare isP_5 h_M) (fun M3 _ h_M3 => ?_)
  have h_M3 : OKb (fT s) M3 := h_M3
  refine Sf.c (sX3_stepsAtTheEnd isP_5 h_M3) (fun r5 p_2 => ?_)
  obtain ⟨p_2a, p_2b⟩ := p_2
  exact Sf.ok ⟨h_M3, (i_rng _)⟩
set_option maxHeartbeats 2000000 in
theorem sX6_mostBends {s : Nat → Int × Int} {M : Mem} (h_M : OKb (fT s) M) : Sf (mX6_mostBends 0 M) (pMI (fT s) (-63) (63)) := by
  unfold mX6_mostBends
  refine Sf.m (sX3_prepare isP_5 h_M) (fun M3 _ h_M3 => ?_)
  have h_M3 : OKb (fT s) M3 := h_M3
  refine Sf.c (sX3_mostBendsFrom isP_5 h_M3) (fun r5 p_2 => ?_)
  obtain ⟨p_2a, p_2b⟩ := p_2
  have z_3 : (-63 : Int) ≤ (r5).toInt ∧ (r5).toInt ≤ 63 := ⟨by omega, by omega⟩
  exact Sf.ok ⟨h_M3, z_3⟩
set_option maxHeartbeats 2000000 in
theorem sX6_greatestBeam_b59 {s : Nat → Int × Int} {ih16 : Int32 → Int32 → Mem → Option (Mem × Int32)} {x1 : Int32} {x2 : Int32} {M : Mem} {d16 : Nat} (h_M : OKb (fT s) M) (hx1 : (-1 : Int) ≤ (x1).toInt ∧ (x1).toInt ≤ 20) (hx2 : (1 : Int) ≤ (x2).toInt ∧ (x2).toInt ≤ 16) (hih16 : ∀ (yx1 : Int32) (yx2 : Int32) (M : Mem), OKb (fT s) M → ((-1 : Int) ≤ (yx1).toInt ∧ (yx1).toInt ≤ 20) → ((0 : Int) ≤ (yx2).toInt ∧ (yx2).toInt ≤ 16) → (yx2).toInt < d16 → Sf (ih16 yx1 yx2 M) (pMI (fT s) (-1) (2000))) (hmu16 : (x2).toInt ≤ d16) : Sf (mX6_greatestBeam_b59 0 ih16 x1 x2 M) (pMI (fT s) (-1) (2000)) := by
  unfold mX6_greatestBeam_b59
  try have a_1 := i_shr1 (a := x2)
  refine Sf.b (fun x2_62 e_x2_62 => ?_)
  have d_x2_62 := congrArg Int32.toInt e_x2_62
  exact (hih16 _ _ _ h_M ⟨by omega, by omega⟩ ⟨by omega, by omega⟩ (by omega))
set_option maxHeartbeats 2000000 in
theorem sX6_greatestBeam_b16 {s : Nat → Int × Int} {ih16 : Int32 → Int32 → Mem → Option (Mem × Int32)} {x1 : Int32} {x2 : Int32} {M : Mem} {d16 : Nat} (h_M : OKb (fT s) M) (hx1 : (-1 : Int) ≤ (x1).toInt ∧ (x1).toInt ≤ 20) (hx2 : (0 : Int) ≤ (x2).toInt ∧ (x2).toInt ≤ 16) (hih16 : ∀ (yx1 : Int32) (yx2 : Int32) (M : Mem), OKb (fT s) M → ((-1 : Int) ≤ (yx1).toInt ∧ (yx1).toInt ≤ 20) → ((0 : Int) ≤ (yx2).toInt ∧ (yx2).toInt ≤ 16) → (yx2).toInt < d16 → Sf (ih16 yx1 yx2 M) (pMI (fT s) (-1) (2000))) (hmu16 : (x2).toInt ≤ d16) : Sf (mX6_greatestBeam_b16 0 ih16 x1 x2 M) (pMI (fT s) (-1) (2000)) := by
  unfold mX6_greatestBeam_b16
  have n_1 : ((0 : Int32)).toInt = 0 := rfl
  refine Sf.i (fun c_2 => ?_) (fun c_2 => ?_)
  · have c_2 := i_le.mp c_2
    have n_3 : (((-1) : Int32)).toInt = -1 := rfl
    refine Sf.i (fun c_4 => ?_) (fun c_4 => ?_)
    · have c_4 := i_eq.mp c_4
      have z_5 : (-1 : Int) ≤ (((-1) : Int32)).toInt ∧ (((-1) : Int32)).toInt ≤ 2000 := ⟨by omega, by omega⟩
      exact Sf.ok ⟨h_M, z_5⟩
    · have c_4 := i_ne c_4
      have n_6 : ((100 : Int32)).toInt = 100 := rfl
      try have a_7 : (((100 : Int32) * x1)).toInt = 100 * (x1).toInt := i_mulc (by omega) (by omega) (by omega)
      have z_8 : (-1 : Int) ≤ (((100 : Int32) * x1)).toInt ∧ (((100 : Int32) * x1)).toInt ≤ 2000 := ⟨by omega, by omega⟩
      exact Sf.ok ⟨h_M, z_8⟩
  · have c_2 := i_nle c_2
    try have a_9 : ((x1 + x2)).toInt = (x1).toInt + (x2).toInt := i_add (by omega) (by omega)
    refine Sf.b (fun x3_23 e_x3_23 => ?_)
    have d_x3_23 := congrArg Int32.toInt e_x3_23
    have n_10 : ((1 : Int32)).toInt = 1 := rfl
    refine Sf.k (ok_in (by omega) (by omega)) ?_
    refine Sf.b (fun M9 e_M9 => ?_)
    have h_M9 : OKb (fT s) M9 := by rw [e_M9]; exact h_M.put rfl (i_rng _)
    have n_11 : ((20 : Int32)).toInt = 20 := rfl
    refine Sf.i (fun c_12 => ?_) (fun c_12 => ?_)
    · have c_12 := i_lt.mp c_12
      exact (sX6_greatestBeam_b59 h_M9 ⟨by omega, by omega⟩ ⟨by omega, by omega⟩ hih16 (by omega))
    · have c_12 := i_nlt c_12
      refine Sf.m (sX3_reachesAll isP_13 h_M9) (fun M14 r13 p_13 => ?_)
      have h_M14 : OKb (fT s) M14 := p_13.1
      have p_13 : (0 : Int) ≤ (r13).toInt ∧ (r13).toInt ≤ (1 : Int) := p_13.2
      refine Sf.i (fun c_14 => ?_) (fun c_14 => ?_)
      · have c_14 := i_eq.mp c_14
        exact (sX6_greatestBeam_b59 h_M14 ⟨by omega, by omega⟩ ⟨by omega, by omega⟩ hih16 (by omega))
      · have c_14 := i_ne c_14
        exact (sX6_greatestBeam_b59 h_M14 ⟨by omega, by omega⟩ ⟨by omega, by omega⟩ hih16 (by omega))
theorem sX6_greatestBeam_l16_n {s : Nat → Int × Int}    : ∀ (n : Nat) (x1 : Int32) (x2 : Int32) (M : Mem) (h_M : OKb (fT s) M) (hx1 : (-1 : Int) ≤ (x1).toInt ∧ (x1).toInt ≤ 20) (hx2 : (0 : Int) ≤ (x2).toInt ∧ (x2).toInt ≤ 16)    (hmu : (x2).toInt < n), Sf (mX6_greatestBeam_l16 0 n x1 x2 M) (pMI (fT s) (-1) (2000)) := by
  intro n
  induction n with
  | zero => intro x1 x2 M h_M hx1 hx2 hmu; exfalso; omega
  | succ n IH => intro x1 x2 M h_M hx1 hx2 hmu; exact sX6_greatestBeam_b16  h_M hx1 hx2    IH (by omega)
theorem sX6_greatestBeam_l16 {s : Nat → Int × Int}  {x1 : Int32} {x2 : Int32} {M : Mem}  (h_M : OKb (fT s) M) (hx1 : (-1 : Int) ≤ (x1).toInt ∧ (x1).toInt ≤ 20) (hx2 : (0 : Int) ≤ (x2).toInt ∧ (x2).toInt ≤ 16)    (hmu : (x2).toInt < 5000) : Sf (mX6_greatestBeam_l16 0 5000 x1 x2 M) (pMI (fT s) (-1) (2000)) :=
  sX6_greatestBeam_l16_n   5000 _ _ M h_M hx1 hx2    hmu
set_option maxHeartbeats 2000000 in
theorem sX6_greatestBeam {s : Nat → Int × Int} {M : Mem} (h_M : OKb (fT s) M) : Sf (mX6_greatestBeam 0 M) (pMI (fT s) (-1) (2000)) := by
  unfold mX6_greatestBeam
  refine Sf.m (sX1_copyFrom isP_13 isP_5 h_M) (fun M3 _ p_1 => ?_)
  have h_M3 : OKb (fT s) M3 := p_1.1
  have gq_M3 : ∀ j, rd M3 21 j = rd M 21 j := p_1.2
  have n_2 : (((-1) : Int32)).toInt = -1 := rfl
  have n_3 : ((16 : Int32)).toInt = 16 := rfl
  exact (sX6_greatestBeam_l16 h_M3 ⟨by omega, by omega⟩ ⟨by omega, by omega⟩ (by omega))
set_option maxHeartbeats 2000000 in
theorem sX6_requireFlat {s : Nat → Int × Int} {M : Mem} (h_M : OKb (fT s) M) : Sf (mX6_requireFlat 0 M) (pX (fT s) rT [2]) := by
  unfold mX6_requireFlat
  have b_1 : (0 : Int) ≤ (rd M 5 14).toInt ∧ (rd M 5 14).toInt ≤ 8 := h_M.at rfl
  have n_2 : ((0 : Int32)).toInt = 0 := rfl
  refine Sf.i (fun c_3 => ?_) (fun c_3 => ?_)
  · have c_3 := i_le.mp c_3
    exact Sf.ok ⟨h_M, trivial⟩
  · have c_3 := i_nle c_3
    exact Sf.ok ⟨h_M, show (2 : Nat) ∈ [2] from by decide⟩
set_option maxHeartbeats 2000000 in
theorem sX6_costIfTurned {s : Nat → Int × Int} {x1 : Int32} {M : Mem} (h_M : OKb (fT s) M) : Sf (mX6_costIfTurned 0 x1 M) (pX (fT s) (rI (-2147483648) (2147483647)) [1, 2]) := by
  unfold mX6_costIfTurned
  refine Sf.x (sX6_requireBend h_M) (fun M3 _ p_1 => ?_) (fun M e h => ⟨h.1, mem_sub (by decide) h.2⟩)
  have h_M3 : OKb (fT s) M3 := p_1.1
  have p_1h : ((0 : Int) ≤ (x1).toInt ∧ (x1).toInt ≤ 7) := p_1.2
  refine Sf.x (sX6_requireFlat h_M3) (fun M7 _ p_2 => ?_) (fun M e h => ⟨h.1, mem_sub (by decide) h.2⟩)
  have h_M7 : OKb (fT s) M7 := p_2.1
  refine Sf.m (sX1_copyFrom isP_13 isP_5 h_M7) (fun M11 _ p_3 => ?_)
  have h_M11 : OKb (fT s) M11 := p_3.1
  have gq_M11 : ∀ j, rd M11 21 j = rd M7 21 j := p_3.2
  have b_4 : (0 : Int) ≤ (rd M11 13 2).toInt ∧ (rd M11 13 2).toInt ≤ 255 := h_M11.at rfl
  try have a_5 : 0 < (((1 : Int32) <<< (x1 &&& 31))).toInt ∧ (((1 : Int32) <<< (x1 &&& 31))).toInt ≤ 128 := i_shl 7 (by decide) ⟨by omega, by omega⟩
  try have a_6 : 0 ≤ (((rd M11 13 2) ^^^ ((1 : Int32) <<< (x1 &&& 31)))).toInt ∧ (((rd M11 13 2) ^^^ ((1 : Int32) <<< (x1 &&& 31)))).toInt < 256 := i_xor 8 (by decide) ⟨by omega, by omega⟩ ⟨by omega, by omega⟩
  have z_7 : (0 : Int) ≤ (((rd M11 13 2) ^^^ ((1 : Int32) <<< (x1 &&& 31)))).toInt ∧ (((rd M11 13 2) ^^^ ((1 : Int32) <<< (x1 &&& 31)))).toInt ≤ 255 := ⟨by omega, by omega⟩
  refine Sf.b (fun M12 e_M12 => ?_)
  have h_M12 : OKb (fT s) M12 := by rw [e_M12]; exact h_M11.put rfl z_7
  refine Sf.m (sX3_prepare isP_13 h_M12) (fun M16 _ h_M16 => ?_)
  have h_M16 : OKb (fT s) M16 := h_M16
  exact Sf.ok ⟨h_M16, (i_rng _)⟩
set_option maxHeartbeats 2000000 in
theorem sX6_makeStep {s : Nat → Int × Int} {x1 : Int32} {M : Mem} (h_M : OKb (fT s) M) (hx1 : (0 : Int) ≤ (x1).toInt ∧ (x1).toInt ≤ 15) : Sf (mX6_makeStep 0 x1 M) (pMI (fT s) (0) (297)) := by
  unfold mX6_makeStep
  refine Sf.m (sX6_costNow h_M ⟨by omega, by omega⟩) (fun M3 r2 p_1 => ?_)
  have h_M3 : OKb (fT s) M3 := p_1.1
  have p_1 : (0 : Int) ≤ (r2).toInt ∧ (r2).toInt ≤ (297 : Int) := p_1.2
  refine Sf.m (sX0_remember isP_5 h_M3) (fun M6 _ h_M6 => ?_)
  have h_M6 : OKb (fT s) M6 := h_M6
  refine Sf.m (sX6_gaugeNow h_M6 ⟨by omega, by omega⟩) (fun M9 r8 p_3 => ?_)
  have h_M9 : OKb (fT s) M9 := p_3.1
  have p_3 : (0 : Int) ≤ (r8).toInt ∧ (r8).toInt ≤ (2147483647 : Int) := p_3.2
  have g_4 := i_rng r8
  refine Sf.m (sX1_addStep isP_5 h_M9 ⟨by omega, by omega⟩ ⟨by omega, by omega⟩ ⟨by omega, by omega⟩) (fun M12 _ h_M12 => ?_)
  have h_M12 : OKb (fT s) M12 := h_M12
  have z_6 : (0 : Int) ≤ (r2).toInt ∧ (r2).toInt ≤ 297 := ⟨by omega, by omega⟩
  exact Sf.ok ⟨h_M12, z_6⟩
set_option maxHeartbeats 2000000 in
theorem sX6_fold {s : Nat → Int × Int} {x1 : Int32} {x2 : Int32} {M : Mem} (h_M : OKb (fT s) M) : Sf (mX6_fold 0 x1 x2 M) (pX (fT s) (rI (0) (297)) [0, 1, 2]) := by
  unfold mX6_fold
  refine Sf.x (sX6_requireStep h_M) (fun M3 _ p_1 => ?_) (fun M e h => ⟨h.1, mem_sub (by decide) h.2⟩)
  have h_M3 : OKb (fT s) M3 := p_1.1
  have p_1h : ((0 : Int) ≤ (x1).toInt ∧ (x1).toInt ≤ 7) ∧ ((0 : Int) ≤ (x2).toInt ∧ (x2).toInt ≤ 1) := p_1.2
  have n_2 : ((2 : Int32)).toInt = 2 := rfl
  try have a_3 : (((2 : Int32) * x1)).toInt = 2 * (x1).toInt := i_mulc (by omega) (by omega) (by omega)
  try have a_4 : ((((2 : Int32) * x1) + x2)).toInt = (((2 : Int32) * x1)).toInt + (x2).toInt := i_add (by omega) (by omega)
  refine Sf.m (sX6_reasonNow h_M3 ⟨by omega, by omega⟩) (fun M7 r6 p_5 => ?_)
  have h_M7 : OKb (fT s) M7 := p_5.1
  have p_5 : (0 : Int) ≤ (r6).toInt ∧ (r6).toInt ≤ (6 : Int) := p_5.2
  have n_6 : ((0 : Int32)).toInt = 0 := rfl
  refine Sf.i (fun c_7 => ?_) (fun c_7 => ?_)
  · have c_7 := i_eq.mp c_7
    refine Sf.m (sX6_makeStep h_M7 ⟨by omega, by omega⟩) (fun M11 r10 p_8 => ?_)
    have h_M11 : OKb (fT s) M11 := p_8.1
    have p_8 : (0 : Int) ≤ (r10).toInt ∧ (r10).toInt ≤ (297 : Int) := p_8.2
    have z_9 : (0 : Int) ≤ (r10).toInt ∧ (r10).toInt ≤ 297 := ⟨by omega, by omega⟩
    exact Sf.ok ⟨h_M11, z_9⟩
  · have c_7 := i_ne c_7
    exact Sf.ok ⟨h_M7, show (2 : Nat) ∈ [0, 1, 2] from by decide⟩
set_option maxHeartbeats 2000000 in
theorem sX6_foldNext {s : Nat → Int × Int} {M : Mem} (h_M : OKb (fT s) M) : Sf (mX6_foldNext 0 M) (pX (fT s) (rI (0) (15)) [2]) := by
  unfold mX6_foldNext
  refine Sf.m (sX3_prepare isP_5 h_M) (fun M3 _ h_M3 => ?_)
  have h_M3 : OKb (fT s) M3 := h_M3
  have n_2 : ((1 : Int32)).toInt = 1 := rfl
  have b_3 : (-1 : Int) ≤ (rd M3 110 3).toInt ∧ (rd M3 110 3).toInt ≤ 8 := h_M3.at rfl
  refine Sf.i (fun c_4 => ?_) (fun c_4 => ?_)
  · have c_4 := i_le.mp c_4
    have n_5 : ((0 : Int32)).toInt = 0 := rfl
    refine Sf.k (ok_in (by omega) (by omega)) ?_
    have b_6 : (0 : Int) ≤ (rd M3 (110 + 1) (((0 : Int32)).toNatClampNeg)).toInt ∧ (rd M3 (110 + 1) (((0 : Int32)).toNatClampNeg)).toInt ≤ 15 := h_M3.at rfl
    refine Sf.b (fun x1_42 e_x1_42 => ?_)
    have d_x1_42 := congrArg Int32.toInt e_x1_42
    refine Sf.m (sX6_makeStep h_M3 ⟨by omega, by omega⟩) (fun M9 r8 p_7 => ?_)
    have h_M9 : OKb (fT s) M9 := p_7.1
    have p_7 : (0 : Int) ≤ (r8).toInt ∧ (r8).toInt ≤ (297 : Int) := p_7.2
    have z_8 : (0 : Int) ≤ (x1_42).toInt ∧ (x1_42).toInt ≤ 15 := ⟨by omega, by omega⟩
    exact Sf.ok ⟨h_M9, z_8⟩
  · have c_4 := i_nle c_4
    exact Sf.ok ⟨h_M3, show (2 : Nat) ∈ [2] from by decide⟩
set_option maxHeartbeats 2000000 in
theorem sX6_unfold {s : Nat → Int × Int} {M : Mem} (h_M : OKb (fT s) M) : Sf (mX6_unfold 0 M) (pMI (fT s) (0) (8)) := by
  unfold mX6_unfold
  refine Sf.m (sX0_remember isP_5 h_M) (fun M3 _ h_M3 => ?_)
  have h_M3 : OKb (fT s) M3 := h_M3
  have b_2 : (0 : Int) ≤ (rd M3 5 14).toInt ∧ (rd M3 5 14).toInt ≤ 8 := h_M3.at rfl
  refine Sf.b (fun x1_18 e_x1_18 => ?_)
  have d_x1_18 := congrArg Int32.toInt e_x1_18
  refine Sf.m (sX1_dropSteps isP_5 h_M3) (fun M7 _ h_M7 => ?_)
  have h_M7 : OKb (fT s) M7 := h_M7
  have z_4 : (0 : Int) ≤ (x1_18).toInt ∧ (x1_18).toInt ≤ 8 := ⟨by omega, by omega⟩
  exact Sf.ok ⟨h_M7, z_4⟩
set_option maxHeartbeats 2000000 in
theorem sX6_setLeg {s : Nat → Int × Int} {x1 : Int32} {x2 : Int32} {M : Mem} (h_M : OKb (fT s) M) : Sf (mX6_setLeg 0 x1 x2 M) (pX (fT s) (rI (0) (9999)) [0, 1, 2]) := by
  unfold mX6_setLeg
  refine Sf.x (sX6_requireLeg h_M) (fun M3 _ p_1 => ?_) (fun M e h => ⟨h.1, mem_sub (by decide) h.2⟩)
  have h_M3 : OKb (fT s) M3 := p_1.1
  have p_1h : ((0 : Int) ≤ (x1).toInt ∧ (x1).toInt ≤ 8) := p_1.2
  refine Sf.c sX5_allows (fun r6 p_2 => ?_)
  have p_2 : ((0 : Int) ≤ (r6).toInt ∧ (r6).toInt ≤ 1) ∧ ((r6).toInt = 0 ∨ ((1 : Int) ≤ (x2).toInt ∧ (x2).toInt ≤ 9999)) := p_2
  have n_3 : ((0 : Int32)).toInt = 0 := rfl
  have n_4 : ((0 : Int32)).toInt = 0 := rfl
  refine Sf.i (fun c_5 => ?_) (fun c_5 => ?_)
  · have c_5 := i_eq.mp c_5
    exact Sf.ok ⟨h_M3, show (0 : Nat) ∈ [0, 1, 2] from by decide⟩
  · have c_5 := i_ne c_5
    refine Sf.x (sX6_requireFlat h_M3) (fun M11 _ p_6 => ?_) (fun M e h => ⟨h.1, mem_sub (by decide) h.2⟩)
    have h_M11 : OKb (fT s) M11 := p_6.1
    refine Sf.m (sX0_remember isP_5 h_M11) (fun M15 _ h_M15 => ?_)
    have h_M15 : OKb (fT s) M15 := h_M15
    refine Sf.k (ok_in (by omega) (by omega)) ?_
    have b_8 : (0 : Int) ≤ (rd M15 (5 + 1) ((x1).toNatClampNeg)).toInt ∧ (rd M15 (5 + 1) ((x1).toNatClampNeg)).toInt ≤ 9999 := h_M15.at rfl
    refine Sf.b (fun x3_51 e_x3_51 => ?_)
    have d_x3_51 := congrArg Int32.toInt e_x3_51
    refine Sf.k (ok_in (by omega) (by omega)) ?_
    have z_9 : (0 : Int) ≤ (x2).toInt ∧ (x2).toInt ≤ 9999 := ⟨by omega, by omega⟩
    refine Sf.b (fun M20 e_M20 => ?_)
    have h_M20 : OKb (fT s) M20 := by rw [e_M20]; exact h_M15.put rfl z_9
    have z_10 : (0 : Int) ≤ (x3_51).toInt ∧ (x3_51).toInt ≤ 9999 := ⟨by omega, by omega⟩
    exact Sf.ok ⟨h_M20, z_10⟩
set_option maxHeartbeats 2000000 in
theorem sX6_setDirection {s : Nat → Int × Int} {x1 : Int32} {x2 : Int32} {M : Mem} (h_M : OKb (fT s) M) : Sf (mX6_setDirection 0 x1 x2 M) (pX (fT s) (rI (0) (1)) [1, 2]) := by
  unfold mX6_setDirection
  refine Sf.x (sX6_requireBend h_M) (fun M3 _ p_1 => ?_) (fun M e h => ⟨h.1, mem_sub (by decide) h.2⟩)
  have h_M3 : OKb (fT s) M3 := p_1.1
  have p_1h : ((0 : Int) ≤ (x1).toInt ∧ (x1).toInt ≤ 7) := p_1.2
  refine Sf.x (sX6_requireFlat h_M3) (fun M7 _ p_2 => ?_) (fun M e h => ⟨h.1, mem_sub (by decide) h.2⟩)
  have h_M7 : OKb (fT s) M7 := p_2.1
  refine Sf.m (sX0_remember isP_5 h_M7) (fun M11 _ h_M11 => ?_)
  have h_M11 : OKb (fT s) M11 := h_M11
  refine Sf.c (sX1_goesUp isP_5 h_M11 ⟨by omega, by omega⟩) (fun r13 p_4 => ?_)
  obtain ⟨p_4a, p_4b⟩ := p_4
  refine Sf.i (fun c_5 => ?_) (fun c_5 => ?_)
  · have c_5 := i_eq.mp c_5
    refine Sf.k (isB_in ⟨by omega, by omega⟩) ?_
    have z_6 : (0 : Int) ≤ (r13).toInt ∧ (r13).toInt ≤ 1 := ⟨by omega, by omega⟩
    exact Sf.ok ⟨h_M11, z_6⟩
  · have c_5 := i_ne c_5
    have b_7 : (0 : Int) ≤ (rd M11 5 2).toInt ∧ (rd M11 5 2).toInt ≤ 255 := h_M11.at rfl
    try have a_8 : 0 < (((1 : Int32) <<< (x1 &&& 31))).toInt ∧ (((1 : Int32) <<< (x1 &&& 31))).toInt ≤ 128 := i_shl 7 (by decide) ⟨by omega, by omega⟩
    try have a_9 : 0 ≤ (((rd M11 5 2) ^^^ ((1 : Int32) <<< (x1 &&& 31)))).toInt ∧ (((rd M11 5 2) ^^^ ((1 : Int32) <<< (x1 &&& 31)))).toInt < 256 := i_xor 8 (by decide) ⟨by omega, by omega⟩ ⟨by omega, by omega⟩
    have z_10 : (0 : Int) ≤ (((rd M11 5 2) ^^^ ((1 : Int32) <<< (x1 &&& 31)))).toInt ∧ (((rd M11 5 2) ^^^ ((1 : Int32) <<< (x1 &&& 31)))).toInt ≤ 255 := ⟨by omega, by omega⟩
    refine Sf.b (fun M17 e_M17 => ?_)
    have h_M17 : OKb (fT s) M17 := by rw [e_M17]; exact h_M11.put rfl z_10
    refine Sf.k (isB_in ⟨by omega, by omega⟩) ?_
    have z_11 : (0 : Int) ≤ (r13).toInt ∧ (r13).toInt ≤ 1 := ⟨by omega, by omega⟩
    exact Sf.ok ⟨h_M17, z_11⟩
set_option maxHeartbeats 2000000 in
theorem sX6_setTool_b32 {s : Nat → Int × Int} {M : Mem} (h_M : OKb (fT s) M) : Sf (mX6_setTool_b32 0 M) (pX (fT s) (rI (-2147483648) (2147483647)) [0]) := by
  unfold mX6_setTool_b32
  exact Sf.ok ⟨h_M, show (0 : Nat) ∈ [0] from by decide⟩
set_option maxHeartbeats 2000000 in
theorem sX6_setTool {s : Nat → Int × Int} {x1 : Int32} {x2 : Int32} {x3 : Int32} {M : Mem} (h_M : OKb (fT s) M) : Sf (mX6_setTool 0 x1 x2 x3 M) (pX (fT s) (rI (-2147483648) (2147483647)) [0]) := by
  unfold mX6_setTool
  refine Sf.c sX5_ofTool (fun r2 p_1 => ?_)
  have p_1 : r2 = none ∨ ∃ w, r2 = some w ∧ 5 ≤ w ∧ w ≤ 9 ∧ (w : Int) = 5 + (x1).toInt := p_1
  refine Sf.o (fun c_2 => ?_) (fun w4 c_2 => ?_)
  · skip
    exact (sX6_setTool_b32 h_M)
  · skip
    have p_1 : 5 ≤ w4 ∧ w4 ≤ 9 ∧ ((w4 : Nat) : Int) = 5 + _ := of_rel p_1 c_2
    refine Sf.k (decide_eq_true (by omega)) ?_
    refine Sf.c sX5_allows (fun r7 p_3 => ?_)
    have p_3 : (0 : Int) ≤ (r7).toInt ∧ (r7).toInt ≤ 1 := p_3.1
    have n_4 : ((0 : Int32)).toInt = 0 := rfl
    have n_5 : ((0 : Int32)).toInt = 0 := rfl
    refine Sf.i (fun c_6 => ?_) (fun c_6 => ?_)
    · have c_6 := i_eq.mp c_6
      exact (sX6_setTool_b32 h_M)
    · have c_6 := i_ne c_6
      refine Sf.c sX5_allowsBehind (fun r11 p_7 => ?_)
      have p_7 : (0 : Int) ≤ (r11).toInt ∧ (r11).toInt ≤ 1 := p_7
      have n_8 : ((1 : Int32)).toInt = 1 := rfl
      refine Sf.i (fun c_9 => ?_) (fun c_9 => ?_)
      · have c_9 := i_eq.mp c_9
        exact (sX6_setTool_b32 h_M)
      · have c_9 := i_ne c_9
        refine Sf.m (sX0_remember isP_5 h_M) (fun M16 _ h_M16 => ?_)
        have h_M16 : OKb (fT s) M16 := h_M16
        have n_11 : ((2 : Int32)).toInt = 2 := rfl
        try have a_12 : (((2 : Int32) * x1)).toInt = 2 * (x1).toInt := i_mulc (by omega) (by omega) (by omega)
        refine Sf.k (ok_in (by omega) (by omega)) ?_
        refine Sf.b (fun x5_65 e_x5_65 => ?_)
        have d_x5_65 := congrArg Int32.toInt e_x5_65
        refine Sf.m (sX1_putTool isP_5 h_M16 ⟨by omega, by omega⟩) (fun M21 _ h_M21 => ?_)
        have h_M21 : OKb (fT s) M21 := h_M21
        exact Sf.ok ⟨h_M21, (i_rng _)⟩
set_option maxHeartbeats 2000000 in
theorem sX6_setSheet_b33 {s : Nat → Int × Int} {M : Mem} (h_M : OKb (fT s) M) : Sf (mX6_setSheet_b33 0 M) (pX (fT s) (rI (-2147483648) (2147483647)) [0]) := by
  unfold mX6_setSheet_b33
  exact Sf.ok ⟨h_M, show (0 : Nat) ∈ [0] from by decide⟩
set_option maxHeartbeats 2000000 in
theorem sX6_setSheet {s : Nat → Int × Int} {x1 : Int32} {x2 : Int32} {x3 : Int32} {M : Mem} (h_M : OKb (fT s) M) : Sf (mX6_setSheet 0 x1 x2 x3 M) (pX (fT s) (rI (-2147483648) (2147483647)) [0]) := by
  unfold mX6_setSheet
  refine Sf.c sX5_allows (fun r2 p_1 => ?_)
  have p_1 : ((0 : Int) ≤ (r2).toInt ∧ (r2).toInt ≤ 1) ∧ ((r2).toInt = 0 ∨ ((1 : Int) ≤ (x1).toInt ∧ (x1).toInt ≤ 60)) := p_1
  have n_2 : ((0 : Int32)).toInt = 0 := rfl
  have n_3 : ((0 : Int32)).toInt = 0 := rfl
  refine Sf.i (fun c_4 => ?_) (fun c_4 => ?_)
  · have c_4 := i_eq.mp c_4
    exact (sX6_setSheet_b33 h_M)
  · have c_4 := i_ne c_4
    refine Sf.c sX5_allows (fun r6 p_5 => ?_)
    have p_5 : ((0 : Int) ≤ (r6).toInt ∧ (r6).toInt ≤ 1) ∧ ((r6).toInt = 0 ∨ ((0 : Int) ≤ (x2).toInt ∧ (x2).toInt ≤ 200)) := p_5
    have n_6 : ((1 : Int32)).toInt = 1 := rfl
    refine Sf.i (fun c_7 => ?_) (fun c_7 => ?_)
    · have c_7 := i_eq.mp c_7
      exact (sX6_setSheet_b33 h_M)
    · have c_7 := i_ne c_7
      refine Sf.c sX5_allows (fun r10 p_8 => ?_)
      have p_8 : ((0 : Int) ≤ (r10).toInt ∧ (r10).toInt ≤ 1) ∧ ((r10).toInt = 0 ∨ ((0 : Int) ≤ (x3).toInt ∧ (x3).toInt ≤ 100)) := p_8
      have n_9 : ((2 : Int32)).toInt = 2 := rfl
      refine Sf.i (fun c_10 => ?_) (fun c_10 => ?_)
      · have c_10 := i_eq.mp c_10
        exact (sX6_setSheet_b33 h_M)
      · have c_10 := i_ne c_10
        refine Sf.m (sX0_remember isP_5 h_M) (fun M15 _ h_M15 => ?_)
        have h_M15 : OKb (fT s) M15 := h_M15
        refine Sf.b (fun x4_62 e_x4_62 => ?_)
        have d_x4_62 := congrArg Int32.toInt e_x4_62
        refine Sf.m (sX1_putSheet isP_5 h_M15) (fun M19 _ p_12 => ?_)
        have h_M19 : OKb (fT s) M19 := p_12.1
        have gq_M19 : ∀ j, rd M19 21 j = rd M15 21 j := p_12.2
        exact Sf.ok ⟨h_M19, (i_rng _)⟩
set_option maxHeartbeats 2000000 in
theorem sX6_setCost_b33 {s : Nat → Int × Int} {M : Mem} (h_M : OKb (fT s) M) : Sf (mX6_setCost_b33 0 M) (pX (fT s) (rI (0) (99)) [0]) := by
  unfold mX6_setCost_b33
  exact Sf.ok ⟨h_M, show (0 : Nat) ∈ [0] from by decide⟩
set_option maxHeartbeats 2000000 in
theorem sX6_setCost {s : Nat → Int × Int} {x1 : Int32} {x2 : Int32} {x3 : Int32} {M : Mem} (h_M : OKb (fT s) M) : Sf (mX6_setCost 0 x1 x2 x3 M) (pX (fT s) (rI (0) (99)) [0]) := by
  unfold mX6_setCost
  refine Sf.c sX5_allows (fun r2 p_1 => ?_)
  have p_1 : ((0 : Int) ≤ (r2).toInt ∧ (r2).toInt ≤ 1) ∧ ((r2).toInt = 0 ∨ ((0 : Int) ≤ (x1).toInt ∧ (x1).toInt ≤ 99)) := p_1
  have n_2 : ((0 : Int32)).toInt = 0 := rfl
  have n_3 : ((0 : Int32)).toInt = 0 := rfl
  refine Sf.i (fun c_4 => ?_) (fun c_4 => ?_)
  · have c_4 := i_eq.mp c_4
    exact (sX6_setCost_b33 h_M)
  · have c_4 := i_ne c_4
    refine Sf.c sX5_allows (fun r6 p_5 => ?_)
    have p_5 : ((0 : Int) ≤ (r6).toInt ∧ (r6).toInt ≤ 1) ∧ ((r6).toInt = 0 ∨ ((0 : Int) ≤ (x2).toInt ∧ (x2).toInt ≤ 99)) := p_5
    have n_6 : ((1 : Int32)).toInt = 1 := rfl
    refine Sf.i (fun c_7 => ?_) (fun c_7 => ?_)
    · have c_7 := i_eq.mp c_7
      exact (sX6_setCost_b33 h_M)
    · have c_7 := i_ne c_7
      refine Sf.c sX5_allows (fun r10 p_8 => ?_)
      have p_8 : ((0 : Int) ≤ (r10).toInt ∧ (r10).toInt ≤ 1) ∧ ((r10).toInt = 0 ∨ ((0 : Int) ≤ (x3).toInt ∧ (x3).toInt ≤ 99)) := p_8
      have n_9 : ((2 : Int32)).toInt = 2 := rfl
      refine Sf.i (fun c_10 => ?_) (fun c_10 => ?_)
      · have c_10 := i_eq.mp c_10
        exact (sX6_setCost_b33 h_M)
      · have c_10 := i_ne c_10
        refine Sf.m (sX0_remember isP_5 h_M) (fun M15 _ h_M15 => ?_)
        have h_M15 : OKb (fT s) M15 := h_M15
        have b_12 : (0 : Int) ≤ (rd M15 5 7).toInt ∧ (rd M15 5 7).toInt ≤ 99 := h_M15.at rfl
        refine Sf.b (fun x4_62 e_x4_62 => ?_)
        have d_x4_62 := congrArg Int32.toInt e_x4_62
        refine Sf.m (sX1_putCosts isP_5 h_M15 ⟨by omega, by omega⟩ ⟨by omega, by omega⟩ ⟨by omega, by omega⟩) (fun M19 _ p_13 => ?_)
        have h_M19 : OKb (fT s) M19 := p_13.1
        have gq_M19 : ∀ j, rd M19 21 j = rd M15 21 j := p_13.2
        have z_14 : (0 : Int) ≤ (x4_62).toInt ∧ (x4_62).toInt ≤ 99 := ⟨by omega, by omega⟩
        exact Sf.ok ⟨h_M19, z_14⟩
set_option maxHeartbeats 2000000 in
theorem sX6_undo {s : Nat → Int × Int} {M : Mem} (h_M : OKb (fT s) M) : Sf (mX6_undo 0 M) (pMI (fT s) (-1) (10)) := by
  unfold mX6_undo
  refine Sf.m (sX0_takeBack isP_5 h_M) (fun M3 r2 p_1 => ?_)
  have h_M3 : OKb (fT s) M3 := p_1.1
  have p_1 : (0 : Int) ≤ (r2).toInt ∧ (r2).toInt ≤ (1 : Int) := p_1.2
  have n_2 : ((0 : Int32)).toInt = 0 := rfl
  refine Sf.i (fun c_3 => ?_) (fun c_3 => ?_)
  · have c_3 := i_eq.mp c_3
    have n_4 : (((-1) : Int32)).toInt = -1 := rfl
    have z_5 : (-1 : Int) ≤ (((-1) : Int32)).toInt ∧ (((-1) : Int32)).toInt ≤ 10 := ⟨by omega, by omega⟩
    exact Sf.ok ⟨h_M3, z_5⟩
  · have c_3 := i_ne c_3
    have b_6 : (0 : Int) ≤ (rd M3 21 2).toInt ∧ (rd M3 21 2).toInt ≤ 10 := h_M3.at rfl
    have z_7 : (-1 : Int) ≤ ((rd M3 21 2)).toInt ∧ ((rd M3 21 2)).toInt ≤ 10 := ⟨by omega, by omega⟩
    exact Sf.ok ⟨h_M3, z_7⟩
set_option maxHeartbeats 2000000 in
theorem sL_load {s : Nat → Int × Int} {k1 : Nat} {x1 : Int32} {M : Mem} (h_M : OKb (fT (sB s)) M) : Sf (mL_load 0 k1 x1 M) (pX (fT (sB s)) (rI (0) (1)) []) := by
  unfold mL_load
  refine Sf.t (sX6_load h_M) (fun M3 r2 p_1 => ?_) (fun M3 e4 p_1 => ?_)
  · skip
    have h_M3 : OKb (fT (sB s)) M3 := p_1.1
    have p_1a : (-3 : Int) ≤ (r2).toInt ∧ (r2).toInt ≤ 8 := p_1.2
    have n_2 : ((0 : Int32)).toInt = 0 := rfl
    refine Sf.k (ok_in (by omega) (by omega)) ?_
    refine Sf.b (fun M7 e_M7 => ?_)
    have h_M7 : OKb (fT (sB s)) M7 := by rw [e_M7]; exact h_M3.pl
    have z_3 : (0 : Int) ≤ ((0 : Int32)).toInt ∧ ((0 : Int32)).toInt ≤ 1 := ⟨by omega, by omega⟩
    exact Sf.ok ⟨h_M7, z_3⟩
  · have h_M3 : OKb (fT (sB s)) M3 := p_1.1
    have p_1e : e4 ∈ [0] := p_1.2
    simp only [List.mem_cons, List.not_mem_nil, or_false] at p_1e
    refine Sf.i (fun c_4 => ?_) (fun c_4 => ?_)
    · skip
      have n_5 : ((1 : Int32)).toInt = 1 := rfl
      have z_6 : (0 : Int) ≤ ((1 : Int32)).toInt ∧ ((1 : Int32)).toInt ≤ 1 := ⟨by omega, by omega⟩
      exact Sf.ok ⟨h_M3, z_6⟩
    · skip
      exfalso; omega
set_option maxHeartbeats 2000000 in
theorem sL_leg {s : Nat → Int × Int} {k1 : Nat} {x1 : Int32} {M : Mem} (h_M : OKb (fT s) M) : Sf (mL_leg 0 k1 x1 M) (pX (fT s) (rI (0) (1)) []) := by
  unfold mL_leg
  refine Sf.t (sX6_leg h_M) (fun M3 r2 p_1 => ?_) (fun M3 e4 p_1 => ?_)
  · skip
    have h_M3 : OKb (fT s) M3 := p_1.1
    have p_1a : (0 : Int) ≤ (r2).toInt ∧ (r2).toInt ≤ 9999 := p_1.2
    have n_2 : ((0 : Int32)).toInt = 0 := rfl
    refine Sf.k (ok_in (by omega) (by omega)) ?_
    refine Sf.b (fun M7 e_M7 => ?_)
    have h_M7 : OKb (fT s) M7 := by rw [e_M7]; exact h_M3.pl
    have z_3 : (0 : Int) ≤ ((0 : Int32)).toInt ∧ ((0 : Int32)).toInt ≤ 1 := ⟨by omega, by omega⟩
    exact Sf.ok ⟨h_M7, z_3⟩
  · have h_M3 : OKb (fT s) M3 := p_1.1
    have p_1e : e4 ∈ [1] := p_1.2
    simp only [List.mem_cons, List.not_mem_nil, or_false] at p_1e
    refine Sf.i (fun c_4 => ?_) (fun c_4 => ?_)
    · skip
      have n_5 : ((1 : Int32)).toInt = 1 := rfl
      have z_6 : (0 : Int) ≤ ((1 : Int32)).toInt ∧ ((1 : Int32)).toInt ≤ 1 := ⟨by omega, by omega⟩
      exact Sf.ok ⟨h_M3, z_6⟩
    · skip
      exfalso; omega
set_option maxHeartbeats 2000000 in
theorem sL_isUp_b15 {s : Nat → Int × Int} {k1 : Nat} {y1 : Int32} {y2 : Int64} {M : Mem} (h_M : OKb (fT s) M) (hy1 : (0 : Int) ≤ (y1).toInt ∧ (y1).toInt ≤ 0) : Sf (mL_isUp_b15 0 k1 y1 y2 M) (pX (fT s) (rI (0) (1)) []) := by
  unfold mL_isUp_b15
  refine Sf.k (ok_in (by omega) (by omega)) ?_
  refine Sf.b (fun M8 e_M8 => ?_)
  have h_M8 : OKb (fT s) M8 := by rw [e_M8]; exact h_M.pl
  have n_1 : ((0 : Int32)).toInt = 0 := rfl
  have z_2 : (0 : Int) ≤ ((0 : Int32)).toInt ∧ ((0 : Int32)).toInt ≤ 1 := ⟨by omega, by omega⟩
  exact Sf.ok ⟨h_M8, z_2⟩
set_option maxHeartbeats 2000000 in
theorem sL_isUp {s : Nat → Int × Int} {k1 : Nat} {x1 : Int32} {M : Mem} (h_M : OKb (fT s) M) : Sf (mL_isUp 0 k1 x1 M) (pX (fT s) (rI (0) (1)) []) := by
  unfold mL_isUp
  refine Sf.t (sX6_isUp h_M) (fun M3 r2 p_1 => ?_) (fun M3 e4 p_1 => ?_)
  · skip
    have h_M3 : OKb (fT s) M3 := p_1.1
    have p_1a : (0 : Int) ≤ (r2).toInt ∧ (r2).toInt ≤ 1 := p_1.2
    have n_2 : ((0 : Int32)).toInt = 0 := rfl
    refine Sf.i (fun c_3 => ?_) (fun c_3 => ?_)
    · have c_3 := i_eq.mp c_3
      have n_4 : ((0 : Int32)).toInt = 0 := rfl
      exact (sL_isUp_b15 h_M3 ⟨by omega, by omega⟩)
    · have c_3 := i_ne c_3
      have n_5 : ((0 : Int32)).toInt = 0 := rfl
      exact (sL_isUp_b15 h_M3 ⟨by omega, by omega⟩)
  · have h_M3 : OKb (fT s) M3 := p_1.1
    have p_1e : e4 ∈ [1] := p_1.2
    simp only [List.mem_cons, List.not_mem_nil, or_false] at p_1e
    refine Sf.i (fun c_6 => ?_) (fun c_6 => ?_)
    · skip
      have n_7 : ((1 : Int32)).toInt = 1 := rfl
      have z_8 : (0 : Int) ≤ ((1 : Int32)).toInt ∧ ((1 : Int32)).toInt ≤ 1 := ⟨by omega, by omega⟩
      exact Sf.ok ⟨h_M3, z_8⟩
    · skip
      exfalso; omega
set_option maxHeartbeats 2000000 in
theorem sL_tool {s : Nat → Int × Int} {k1 : Nat} {x1 : Int32} {x2 : Int32} {M : Mem} (h_M : OKb (fT s) M) : Sf (mL_tool 0 k1 x1 x2 M) (pX (fT s) (rI (0) (1)) []) := by
  unfold mL_tool
  refine Sf.t (sX6_tool h_M) (fun M3 r2 p_1 => ?_) (fun M3 e4 p_1 => ?_)
  · skip
    have h_M3 : OKb (fT s) M3 := p_1.1
    have p_1a : (-2147483648 : Int) ≤ (r2).toInt ∧ (r2).toInt ≤ 2147483647 := p_1.2
    have n_2 : ((0 : Int32)).toInt = 0 := rfl
    refine Sf.k (ok_in (by omega) (by omega)) ?_
    refine Sf.b (fun M7 e_M7 => ?_)
    have h_M7 : OKb (fT s) M7 := by rw [e_M7]; exact h_M3.pl
    have z_3 : (0 : Int) ≤ ((0 : Int32)).toInt ∧ ((0 : Int32)).toInt ≤ 1 := ⟨by omega, by omega⟩
    exact Sf.ok ⟨h_M7, z_3⟩
  · have h_M3 : OKb (fT s) M3 := p_1.1
    have p_1e : e4 ∈ [0] := p_1.2
    simp only [List.mem_cons, List.not_mem_nil, or_false] at p_1e
    refine Sf.i (fun c_4 => ?_) (fun c_4 => ?_)
    · skip
      have n_5 : ((1 : Int32)).toInt = 1 := rfl
      have z_6 : (0 : Int) ≤ ((1 : Int32)).toInt ∧ ((1 : Int32)).toInt ≤ 1 := ⟨by omega, by omega⟩
      exact Sf.ok ⟨h_M3, z_6⟩
    · skip
      exfalso; omega
set_option maxHeartbeats 2000000 in
theorem sL_finishedCorner {s : Nat → Int × Int} {k1 : Nat} {x1 : Int32} {x2 : Int32} {M : Mem} (h_M : OKb (fT s) M) : Sf (mL_finishedCorner 0 k1 x1 x2 M) (pX (fT s) (rI (0) (2)) []) := by
  unfold mL_finishedCorner
  refine Sf.t (sX6_finishedCorner h_M) (fun M3 r2 p_1 => ?_) (fun M3 e4 p_1 => ?_)
  · skip
    have h_M3 : OKb (fT s) M3 := p_1.1
    have p_1a : (-2147483648 : Int) ≤ (r2).toInt ∧ (r2).toInt ≤ 2147483647 := p_1.2
    have n_2 : ((0 : Int32)).toInt = 0 := rfl
    refine Sf.k (ok_in (by omega) (by omega)) ?_
    refine Sf.b (fun M7 e_M7 => ?_)
    have h_M7 : OKb (fT s) M7 := by rw [e_M7]; exact h_M3.pl
    have z_3 : (0 : Int) ≤ ((0 : Int32)).toInt ∧ ((0 : Int32)).toInt ≤ 2 := ⟨by omega, by omega⟩
    exact Sf.ok ⟨h_M7, z_3⟩
  · have h_M3 : OKb (fT s) M3 := p_1.1
    have p_1e : e4 ∈ [0, 1] := p_1.2
    simp only [List.mem_cons, List.not_mem_nil, or_false] at p_1e
    refine Sf.i (fun c_4 => ?_) (fun c_4 => ?_)
    · skip
      have n_5 : ((1 : Int32)).toInt = 1 := rfl
      have z_6 : (0 : Int) ≤ ((1 : Int32)).toInt ∧ ((1 : Int32)).toInt ≤ 2 := ⟨by omega, by omega⟩
      exact Sf.ok ⟨h_M3, z_6⟩
    · skip
      refine Sf.i (fun c_7 => ?_) (fun c_7 => ?_)
      · skip
        have n_8 : ((2 : Int32)).toInt = 2 := rfl
        have z_9 : (0 : Int) ≤ ((2 : Int32)).toInt ∧ ((2 : Int32)).toInt ≤ 2 := ⟨by omega, by omega⟩
        exact Sf.ok ⟨h_M3, z_9⟩
      · skip
        exfalso; omega
set_option maxHeartbeats 2000000 in
theorem sL_step {s : Nat → Int × Int} {k1 : Nat} {x1 : Int32} {x2 : Int32} {M : Mem} (h_M : OKb (fT s) M) : Sf (mL_step 0 k1 x1 x2 M) (pX (fT s) (rI (0) (2)) []) := by
  unfold mL_step
  refine Sf.t (sX6_step h_M) (fun M3 r2 p_1 => ?_) (fun M3 e4 p_1 => ?_)
  · skip
    have h_M3 : OKb (fT s) M3 := p_1.1
    have p_1a : (-2147483648 : Int) ≤ (r2).toInt ∧ (r2).toInt ≤ 2147483647 := p_1.2
    have n_2 : ((0 : Int32)).toInt = 0 := rfl
    refine Sf.k (ok_in (by omega) (by omega)) ?_
    refine Sf.b (fun M7 e_M7 => ?_)
    have h_M7 : OKb (fT s) M7 := by rw [e_M7]; exact h_M3.pl
    have z_3 : (0 : Int) ≤ ((0 : Int32)).toInt ∧ ((0 : Int32)).toInt ≤ 2 := ⟨by omega, by omega⟩
    exact Sf.ok ⟨h_M7, z_3⟩
  · have h_M3 : OKb (fT s) M3 := p_1.1
    have p_1e : e4 ∈ [0, 1] := p_1.2
    simp only [List.mem_cons, List.not_mem_nil, or_false] at p_1e
    refine Sf.i (fun c_4 => ?_) (fun c_4 => ?_)
    · skip
      have n_5 : ((1 : Int32)).toInt = 1 := rfl
      have z_6 : (0 : Int) ≤ ((1 : Int32)).toInt ∧ ((1 : Int32)).toInt ≤ 2 := ⟨by omega, by omega⟩
      exact Sf.ok ⟨h_M3, z_6⟩
    · skip
      refine Sf.i (fun c_7 => ?_) (fun c_7 => ?_)
      · skip
        have n_8 : ((2 : Int32)).toInt = 2 := rfl
        have z_9 : (0 : Int) ≤ ((2 : Int32)).toInt ∧ ((2 : Int32)).toInt ≤ 2 := ⟨by omega, by omega⟩
        exact Sf.ok ⟨h_M3, z_9⟩
      · skip
        exfalso; omega
set_option maxHeartbeats 2000000 in
theorem sL_reason {s : Nat → Int × Int} {k1 : Nat} {x1 : Int32} {x2 : Int32} {M : Mem} (h_M : OKb (fT s) M) : Sf (mL_reason 0 k1 x1 x2 M) (pX (fT s) (rI (0) (2)) []) := by
  unfold mL_reason
  refine Sf.t (sX6_reason h_M) (fun M3 r2 p_1 => ?_) (fun M3 e4 p_1 => ?_)
  · skip
    have h_M3 : OKb (fT s) M3 := p_1.1
    have p_1a : (0 : Int) ≤ (r2).toInt ∧ (r2).toInt ≤ 6 := p_1.2
    have n_2 : ((0 : Int32)).toInt = 0 := rfl
    refine Sf.k (ok_in (by omega) (by omega)) ?_
    refine Sf.b (fun M7 e_M7 => ?_)
    have h_M7 : OKb (fT s) M7 := by rw [e_M7]; exact h_M3.pl
    have z_3 : (0 : Int) ≤ ((0 : Int32)).toInt ∧ ((0 : Int32)).toInt ≤ 2 := ⟨by omega, by omega⟩
    exact Sf.ok ⟨h_M7, z_3⟩
  · have h_M3 : OKb (fT s) M3 := p_1.1
    have p_1e : e4 ∈ [0, 1] := p_1.2
    simp only [List.mem_cons, List.not_mem_nil, or_false] at p_1e
    refine Sf.i (fun c_4 => ?_) (fun c_4 => ?_)
    · skip
      have n_5 : ((1 : Int32)).toInt = 1 := rfl
      have z_6 : (0 : Int) ≤ ((1 : Int32)).toInt ∧ ((1 : Int32)).toInt ≤ 2 := ⟨by omega, by omega⟩
      exact Sf.ok ⟨h_M3, z_6⟩
    · skip
      refine Sf.i (fun c_7 => ?_) (fun c_7 => ?_)
      · skip
        have n_8 : ((2 : Int32)).toInt = 2 := rfl
        have z_9 : (0 : Int) ≤ ((2 : Int32)).toInt ∧ ((2 : Int32)).toInt ≤ 2 := ⟨by omega, by omega⟩
        exact Sf.ok ⟨h_M3, z_9⟩
      · skip
        exfalso; omega
set_option maxHeartbeats 2000000 in
theorem sL_gauge {s : Nat → Int × Int} {k1 : Nat} {x1 : Int32} {x2 : Int32} {M : Mem} (h_M : OKb (fT s) M) : Sf (mL_gauge 0 k1 x1 x2 M) (pX (fT s) (rI (0) (2)) []) := by
  unfold mL_gauge
  refine Sf.t (sX6_gauge h_M) (fun M3 r2 p_1 => ?_) (fun M3 e4 p_1 => ?_)
  · skip
    have h_M3 : OKb (fT s) M3 := p_1.1
    have p_1a : (0 : Int) ≤ (r2).toInt ∧ (r2).toInt ≤ 2147483647 := p_1.2
    have n_2 : ((0 : Int32)).toInt = 0 := rfl
    refine Sf.k (ok_in (by omega) (by omega)) ?_
    refine Sf.b (fun M7 e_M7 => ?_)
    have h_M7 : OKb (fT s) M7 := by rw [e_M7]; exact h_M3.pl
    have z_3 : (0 : Int) ≤ ((0 : Int32)).toInt ∧ ((0 : Int32)).toInt ≤ 2 := ⟨by omega, by omega⟩
    exact Sf.ok ⟨h_M7, z_3⟩
  · have h_M3 : OKb (fT s) M3 := p_1.1
    have p_1e : e4 ∈ [0, 1] := p_1.2
    simp only [List.mem_cons, List.not_mem_nil, or_false] at p_1e
    refine Sf.i (fun c_4 => ?_) (fun c_4 => ?_)
    · skip
      have n_5 : ((1 : Int32)).toInt = 1 := rfl
      have z_6 : (0 : Int) ≤ ((1 : Int32)).toInt ∧ ((1 : Int32)).toInt ≤ 2 := ⟨by omega, by omega⟩
      exact Sf.ok ⟨h_M3, z_6⟩
    · skip
      refine Sf.i (fun c_7 => ?_) (fun c_7 => ?_)
      · skip
        have n_8 : ((2 : Int32)).toInt = 2 := rfl
        have z_9 : (0 : Int) ≤ ((2 : Int32)).toInt ∧ ((2 : Int32)).toInt ≤ 2 := ⟨by omega, by omega⟩
        exact Sf.ok ⟨h_M3, z_9⟩
      · skip
        exfalso; omega
set_option maxHeartbeats 2000000 in
theorem sL_corner {s : Nat → Int × Int} {k1 : Nat} {x1 : Int32} {x2 : Int32} {x3 : Int32} {x4 : Int32} {M : Mem} (h_M : OKb (fT s) M) : Sf (mL_corner 0 k1 x1 x2 x3 x4 M) (pX (fT s) (rI (0) (2)) []) := by
  unfold mL_corner
  refine Sf.t (sX6_corner h_M) (fun M3 r2 p_1 => ?_) (fun M3 e4 p_1 => ?_)
  · skip
    have h_M3 : OKb (fT s) M3 := p_1.1
    have p_1a : (-2147483648 : Int) ≤ (r2).toInt ∧ (r2).toInt ≤ 2147483647 := p_1.2
    have n_2 : ((0 : Int32)).toInt = 0 := rfl
    refine Sf.k (ok_in (by omega) (by omega)) ?_
    refine Sf.b (fun M7 e_M7 => ?_)
    have h_M7 : OKb (fT s) M7 := by rw [e_M7]; exact h_M3.pl
    have z_3 : (0 : Int) ≤ ((0 : Int32)).toInt ∧ ((0 : Int32)).toInt ≤ 2 := ⟨by omega, by omega⟩
    exact Sf.ok ⟨h_M7, z_3⟩
  · have h_M3 : OKb (fT s) M3 := p_1.1
    have p_1e : e4 ∈ [0, 1] := p_1.2
    simp only [List.mem_cons, List.not_mem_nil, or_false] at p_1e
    refine Sf.i (fun c_4 => ?_) (fun c_4 => ?_)
    · skip
      have n_5 : ((1 : Int32)).toInt = 1 := rfl
      have z_6 : (0 : Int) ≤ ((1 : Int32)).toInt ∧ ((1 : Int32)).toInt ≤ 2 := ⟨by omega, by omega⟩
      exact Sf.ok ⟨h_M3, z_6⟩
    · skip
      refine Sf.i (fun c_7 => ?_) (fun c_7 => ?_)
      · skip
        have n_8 : ((2 : Int32)).toInt = 2 := rfl
        have z_9 : (0 : Int) ≤ ((2 : Int32)).toInt ∧ ((2 : Int32)).toInt ≤ 2 := ⟨by omega, by omega⟩
        exact Sf.ok ⟨h_M3, z_9⟩
      · skip
        exfalso; omega
set_option maxHeartbeats 2000000 in
theorem sL_top {s : Nat → Int × Int} {k1 : Nat} {x1 : Int32} {x2 : Int32} {M : Mem} (h_M : OKb (fT s) M) : Sf (mL_top 0 k1 x1 x2 M) (pX (fT s) (rI (0) (2)) []) := by
  unfold mL_top
  refine Sf.t (sX6_top h_M) (fun M3 r2 p_1 => ?_) (fun M3 e4 p_1 => ?_)
  · skip
    have h_M3 : OKb (fT s) M3 := p_1.1
    have p_1a : (0 : Int) ≤ (r2).toInt ∧ (r2).toInt ≤ 2147483647 := p_1.2
    have n_2 : ((0 : Int32)).toInt = 0 := rfl
    refine Sf.k (ok_in (by omega) (by omega)) ?_
    refine Sf.b (fun M7 e_M7 => ?_)
    have h_M7 : OKb (fT s) M7 := by rw [e_M7]; exact h_M3.pl
    have z_3 : (0 : Int) ≤ ((0 : Int32)).toInt ∧ ((0 : Int32)).toInt ≤ 2 := ⟨by omega, by omega⟩
    exact Sf.ok ⟨h_M7, z_3⟩
  · have h_M3 : OKb (fT s) M3 := p_1.1
    have p_1e : e4 ∈ [0, 1] := p_1.2
    simp only [List.mem_cons, List.not_mem_nil, or_false] at p_1e
    refine Sf.i (fun c_4 => ?_) (fun c_4 => ?_)
    · skip
      have n_5 : ((1 : Int32)).toInt = 1 := rfl
      have z_6 : (0 : Int) ≤ ((1 : Int32)).toInt ∧ ((1 : Int32)).toInt ≤ 2 := ⟨by omega, by omega⟩
      exact Sf.ok ⟨h_M3, z_6⟩
    · skip
      refine Sf.i (fun c_7 => ?_) (fun c_7 => ?_)
      · skip
        have n_8 : ((2 : Int32)).toInt = 2 := rfl
        have z_9 : (0 : Int) ≤ ((2 : Int32)).toInt ∧ ((2 : Int32)).toInt ≤ 2 := ⟨by omega, by omega⟩
        exact Sf.ok ⟨h_M3, z_9⟩
      · skip
        exfalso; omega
set_option maxHeartbeats 2000000 in
theorem sL_hitting {s : Nat → Int × Int} {k1 : Nat} {x1 : Int32} {x2 : Int32} {M : Mem} (h_M : OKb (fT s) M) : Sf (mL_hitting 0 k1 x1 x2 M) (pX (fT s) (rI (0) (2)) []) := by
  unfold mL_hitting
  refine Sf.t (sX6_hitting h_M) (fun M3 r2 p_1 => ?_) (fun M3 e4 p_1 => ?_)
  · skip
    have h_M3 : OKb (fT s) M3 := p_1.1
    have p_1a : (0 : Int) ≤ (r2).toInt ∧ (r2).toInt ≤ 4095 := p_1.2
    have n_2 : ((0 : Int32)).toInt = 0 := rfl
    refine Sf.k (ok_in (by omega) (by omega)) ?_
    refine Sf.b (fun M7 e_M7 => ?_)
    have h_M7 : OKb (fT s) M7 := by rw [e_M7]; exact h_M3.pl
    have z_3 : (0 : Int) ≤ ((0 : Int32)).toInt ∧ ((0 : Int32)).toInt ≤ 2 := ⟨by omega, by omega⟩
    exact Sf.ok ⟨h_M7, z_3⟩
  · have h_M3 : OKb (fT s) M3 := p_1.1
    have p_1e : e4 ∈ [0, 1] := p_1.2
    simp only [List.mem_cons, List.not_mem_nil, or_false] at p_1e
    refine Sf.i (fun c_4 => ?_) (fun c_4 => ?_)
    · skip
      have n_5 : ((1 : Int32)).toInt = 1 := rfl
      have z_6 : (0 : Int) ≤ ((1 : Int32)).toInt ∧ ((1 : Int32)).toInt ≤ 2 := ⟨by omega, by omega⟩
      exact Sf.ok ⟨h_M3, z_6⟩
    · skip
      refine Sf.i (fun c_7 => ?_) (fun c_7 => ?_)
      · skip
        have n_8 : ((2 : Int32)).toInt = 2 := rfl
        have z_9 : (0 : Int) ≤ ((2 : Int32)).toInt ∧ ((2 : Int32)).toInt ≤ 2 := ⟨by omega, by omega⟩
        exact Sf.ok ⟨h_M3, z_9⟩
      · skip
        exfalso; omega
set_option maxHeartbeats 2000000 in
theorem sL_refused {s : Nat → Int × Int} {k1 : Nat} {x1 : Int32} {M : Mem} (h_M : OKb (fT s) M) : Sf (mL_refused 0 k1 x1 M) (pX (fT s) (rI (0) (1)) []) := by
  unfold mL_refused
  refine Sf.t (sX6_refused h_M) (fun M3 r2 p_1 => ?_) (fun M3 e4 p_1 => ?_)
  · skip
    have h_M3 : OKb (fT s) M3 := p_1.1
    have p_1a : (-2147483648 : Int) ≤ (r2).toInt ∧ (r2).toInt ≤ 2147483647 := p_1.2
    have n_2 : ((0 : Int32)).toInt = 0 := rfl
    refine Sf.k (ok_in (by omega) (by omega)) ?_
    refine Sf.b (fun M7 e_M7 => ?_)
    have h_M7 : OKb (fT s) M7 := by rw [e_M7]; exact h_M3.pl
    have z_3 : (0 : Int) ≤ ((0 : Int32)).toInt ∧ ((0 : Int32)).toInt ≤ 1 := ⟨by omega, by omega⟩
    exact Sf.ok ⟨h_M7, z_3⟩
  · have h_M3 : OKb (fT s) M3 := p_1.1
    have p_1e : e4 ∈ [0] := p_1.2
    simp only [List.mem_cons, List.not_mem_nil, or_false] at p_1e
    refine Sf.i (fun c_4 => ?_) (fun c_4 => ?_)
    · skip
      have n_5 : ((1 : Int32)).toInt = 1 := rfl
      have z_6 : (0 : Int) ≤ ((1 : Int32)).toInt ∧ ((1 : Int32)).toInt ≤ 1 := ⟨by omega, by omega⟩
      exact Sf.ok ⟨h_M3, z_6⟩
    · skip
      exfalso; omega
set_option maxHeartbeats 2000000 in
theorem sL_costOf {s : Nat → Int × Int} {k1 : Nat} {x1 : Int32} {x2 : Int32} {M : Mem} (h_M : OKb (fT s) M) : Sf (mL_costOf 0 k1 x1 x2 M) (pX (fT s) (rI (0) (2)) []) := by
  unfold mL_costOf
  refine Sf.t (sX6_costOf h_M) (fun M3 r2 p_1 => ?_) (fun M3 e4 p_1 => ?_)
  · skip
    have h_M3 : OKb (fT s) M3 := p_1.1
    have p_1a : (0 : Int) ≤ (r2).toInt ∧ (r2).toInt ≤ 297 := p_1.2
    have n_2 : ((0 : Int32)).toInt = 0 := rfl
    refine Sf.k (ok_in (by omega) (by omega)) ?_
    refine Sf.b (fun M7 e_M7 => ?_)
    have h_M7 : OKb (fT s) M7 := by rw [e_M7]; exact h_M3.pl
    have z_3 : (0 : Int) ≤ ((0 : Int32)).toInt ∧ ((0 : Int32)).toInt ≤ 2 := ⟨by omega, by omega⟩
    exact Sf.ok ⟨h_M7, z_3⟩
  · have h_M3 : OKb (fT s) M3 := p_1.1
    have p_1e : e4 ∈ [0, 1] := p_1.2
    simp only [List.mem_cons, List.not_mem_nil, or_false] at p_1e
    refine Sf.i (fun c_4 => ?_) (fun c_4 => ?_)
    · skip
      have n_5 : ((1 : Int32)).toInt = 1 := rfl
      have z_6 : (0 : Int) ≤ ((1 : Int32)).toInt ∧ ((1 : Int32)).toInt ≤ 2 := ⟨by omega, by omega⟩
      exact Sf.ok ⟨h_M3, z_6⟩
    · skip
      refine Sf.i (fun c_7 => ?_) (fun c_7 => ?_)
      · skip
        have n_8 : ((2 : Int32)).toInt = 2 := rfl
        have z_9 : (0 : Int) ≤ ((2 : Int32)).toInt ∧ ((2 : Int32)).toInt ≤ 2 := ⟨by omega, by omega⟩
        exact Sf.ok ⟨h_M3, z_9⟩
      · skip
        exfalso; omega
set_option maxHeartbeats 2000000 in
theorem sL_planned {s : Nat → Int × Int} {k1 : Nat} {x1 : Int32} {M : Mem} (h_M : OKb (fT s) M) : Sf (mL_planned 0 k1 x1 M) (pX (fT s) (rI (0) (1)) []) := by
  unfold mL_planned
  refine Sf.t (sX6_planned h_M) (fun M3 r2 p_1 => ?_) (fun M3 e4 p_1 => ?_)
  · skip
    have h_M3 : OKb (fT s) M3 := p_1.1
    have p_1a : (0 : Int) ≤ (r2).toInt ∧ (r2).toInt ≤ 15 := p_1.2
    have n_2 : ((0 : Int32)).toInt = 0 := rfl
    refine Sf.k (ok_in (by omega) (by omega)) ?_
    refine Sf.b (fun M7 e_M7 => ?_)
    have h_M7 : OKb (fT s) M7 := by rw [e_M7]; exact h_M3.pl
    have z_3 : (0 : Int) ≤ ((0 : Int32)).toInt ∧ ((0 : Int32)).toInt ≤ 1 := ⟨by omega, by omega⟩
    exact Sf.ok ⟨h_M7, z_3⟩
  · have h_M3 : OKb (fT s) M3 := p_1.1
    have p_1e : e4 ∈ [1] := p_1.2
    simp only [List.mem_cons, List.not_mem_nil, or_false] at p_1e
    refine Sf.i (fun c_4 => ?_) (fun c_4 => ?_)
    · skip
      have n_5 : ((1 : Int32)).toInt = 1 := rfl
      have z_6 : (0 : Int) ≤ ((1 : Int32)).toInt ∧ ((1 : Int32)).toInt ≤ 1 := ⟨by omega, by omega⟩
      exact Sf.ok ⟨h_M3, z_6⟩
    · skip
      exfalso; omega
set_option maxHeartbeats 2000000 in
theorem sL_ordersWith {s : Nat → Int × Int} {k1 : Nat} {x1 : Int32} {x2 : Int32} {M : Mem} (h_M : OKb (fT s) M) : Sf (mL_ordersWith 0 k1 x1 x2 M) (pX (fT s) (rI (0) (2)) []) := by
  unfold mL_ordersWith
  refine Sf.t (sX6_ordersWith h_M) (fun M3 r2 p_1 => ?_) (fun M3 e4 p_1 => ?_)
  · skip
    have h_M3 : OKb (fT s) M3 := p_1.1
    have n_2 : ((0 : Int32)).toInt = 0 := rfl
    refine Sf.k (ok_in (by omega) (by omega)) ?_
    refine Sf.b (fun M7 e_M7 => ?_)
    have h_M7 : OKb (fT s) M7 := by rw [e_M7]; exact h_M3.pl
    have z_3 : (0 : Int) ≤ ((0 : Int32)).toInt ∧ ((0 : Int32)).toInt ≤ 2 := ⟨by omega, by omega⟩
    exact Sf.ok ⟨h_M7, z_3⟩
  · have h_M3 : OKb (fT s) M3 := p_1.1
    have p_1e : e4 ∈ [0, 1] := p_1.2
    simp only [List.mem_cons, List.not_mem_nil, or_false] at p_1e
    refine Sf.i (fun c_4 => ?_) (fun c_4 => ?_)
    · skip
      have n_5 : ((1 : Int32)).toInt = 1 := rfl
      have z_6 : (0 : Int) ≤ ((1 : Int32)).toInt ∧ ((1 : Int32)).toInt ≤ 2 := ⟨by omega, by omega⟩
      exact Sf.ok ⟨h_M3, z_6⟩
    · skip
      refine Sf.i (fun c_7 => ?_) (fun c_7 => ?_)
      · skip
        have n_8 : ((2 : Int32)).toInt = 2 := rfl
        have z_9 : (0 : Int) ≤ ((2 : Int32)).toInt ∧ ((2 : Int32)).toInt ≤ 2 := ⟨by omega, by omega⟩
        exact Sf.ok ⟨h_M3, z_9⟩
      · skip
        exfalso; omega
set_option maxHeartbeats 2000000 in
theorem sL_costIfTurned {s : Nat → Int × Int} {k1 : Nat} {x1 : Int32} {M : Mem} (h_M : OKb (fT s) M) : Sf (mL_costIfTurned 0 k1 x1 M) (pX (fT s) (rI (0) (2)) []) := by
  unfold mL_costIfTurned
  refine Sf.t (sX6_costIfTurned h_M) (fun M3 r2 p_1 => ?_) (fun M3 e4 p_1 => ?_)
  · skip
    have h_M3 : OKb (fT s) M3 := p_1.1
    have p_1a : (-2147483648 : Int) ≤ (r2).toInt ∧ (r2).toInt ≤ 2147483647 := p_1.2
    have n_2 : ((0 : Int32)).toInt = 0 := rfl
    refine Sf.k (ok_in (by omega) (by omega)) ?_
    refine Sf.b (fun M7 e_M7 => ?_)
    have h_M7 : OKb (fT s) M7 := by rw [e_M7]; exact h_M3.pl
    have z_3 : (0 : Int) ≤ ((0 : Int32)).toInt ∧ ((0 : Int32)).toInt ≤ 2 := ⟨by omega, by omega⟩
    exact Sf.ok ⟨h_M7, z_3⟩
  · have h_M3 : OKb (fT s) M3 := p_1.1
    have p_1e : e4 ∈ [1, 2] := p_1.2
    simp only [List.mem_cons, List.not_mem_nil, or_false] at p_1e
    refine Sf.i (fun c_4 => ?_) (fun c_4 => ?_)
    · skip
      have n_5 : ((1 : Int32)).toInt = 1 := rfl
      have z_6 : (0 : Int) ≤ ((1 : Int32)).toInt ∧ ((1 : Int32)).toInt ≤ 2 := ⟨by omega, by omega⟩
      exact Sf.ok ⟨h_M3, z_6⟩
    · skip
      refine Sf.i (fun c_7 => ?_) (fun c_7 => ?_)
      · skip
        have n_8 : ((2 : Int32)).toInt = 2 := rfl
        have z_9 : (0 : Int) ≤ ((2 : Int32)).toInt ∧ ((2 : Int32)).toInt ≤ 2 := ⟨by omega, by omega⟩
        exact Sf.ok ⟨h_M3, z_9⟩
      · skip
        exfalso; omega
set_option maxHeartbeats 2000000 in
theorem sL_fold {s : Nat → Int × Int} {k1 : Nat} {x1 : Int32} {x2 : Int32} {M : Mem} (h_M : OKb (fT s) M) : Sf (mL_fold 0 k1 x1 x2 M) (pX (fT s) (rI (0) (3)) []) := by
  unfold mL_fold
  refine Sf.t (sX6_fold h_M) (fun M3 r2 p_1 => ?_) (fun M3 e4 p_1 => ?_)
  · skip
    have h_M3 : OKb (fT s) M3 := p_1.1
    have p_1a : (0 : Int) ≤ (r2).toInt ∧ (r2).toInt ≤ 297 := p_1.2
    have n_2 : ((0 : Int32)).toInt = 0 := rfl
    refine Sf.k (ok_in (by omega) (by omega)) ?_
    refine Sf.b (fun M7 e_M7 => ?_)
    have h_M7 : OKb (fT s) M7 := by rw [e_M7]; exact h_M3.pl
    have z_3 : (0 : Int) ≤ ((0 : Int32)).toInt ∧ ((0 : Int32)).toInt ≤ 3 := ⟨by omega, by omega⟩
    exact Sf.ok ⟨h_M7, z_3⟩
  · have h_M3 : OKb (fT s) M3 := p_1.1
    have p_1e : e4 ∈ [0, 1, 2] := p_1.2
    simp only [List.mem_cons, List.not_mem_nil, or_false] at p_1e
    refine Sf.i (fun c_4 => ?_) (fun c_4 => ?_)
    · skip
      have n_5 : ((1 : Int32)).toInt = 1 := rfl
      have z_6 : (0 : Int) ≤ ((1 : Int32)).toInt ∧ ((1 : Int32)).toInt ≤ 3 := ⟨by omega, by omega⟩
      exact Sf.ok ⟨h_M3, z_6⟩
    · skip
      refine Sf.i (fun c_7 => ?_) (fun c_7 => ?_)
      · skip
        have n_8 : ((2 : Int32)).toInt = 2 := rfl
        have z_9 : (0 : Int) ≤ ((2 : Int32)).toInt ∧ ((2 : Int32)).toInt ≤ 3 := ⟨by omega, by omega⟩
        exact Sf.ok ⟨h_M3, z_9⟩
      · skip
        refine Sf.i (fun c_10 => ?_) (fun c_10 => ?_)
        · skip
          have n_11 : ((3 : Int32)).toInt = 3 := rfl
          have z_12 : (0 : Int) ≤ ((3 : Int32)).toInt ∧ ((3 : Int32)).toInt ≤ 3 := ⟨by omega, by omega⟩
          exact Sf.ok ⟨h_M3, z_12⟩
        · skip
          exfalso; omega
set_option maxHeartbeats 2000000 in
theorem sL_foldNext {s : Nat → Int × Int} {k1 : Nat} {M : Mem} (h_M : OKb (fT s) M) : Sf (mL_foldNext 0 k1 M) (pX (fT s) (rI (0) (1)) []) := by
  unfold mL_foldNext
  refine Sf.t (sX6_foldNext h_M) (fun M3 r2 p_1 => ?_) (fun M3 e4 p_1 => ?_)
  · skip
    have h_M3 : OKb (fT s) M3 := p_1.1
    have p_1a : (0 : Int) ≤ (r2).toInt ∧ (r2).toInt ≤ 15 := p_1.2
    have n_2 : ((0 : Int32)).toInt = 0 := rfl
    refine Sf.k (ok_in (by omega) (by omega)) ?_
    refine Sf.b (fun M7 e_M7 => ?_)
    have h_M7 : OKb (fT s) M7 := by rw [e_M7]; exact h_M3.pl
    have z_3 : (0 : Int) ≤ ((0 : Int32)).toInt ∧ ((0 : Int32)).toInt ≤ 1 := ⟨by omega, by omega⟩
    exact Sf.ok ⟨h_M7, z_3⟩
  · have h_M3 : OKb (fT s) M3 := p_1.1
    have p_1e : e4 ∈ [2] := p_1.2
    simp only [List.mem_cons, List.not_mem_nil, or_false] at p_1e
    refine Sf.i (fun c_4 => ?_) (fun c_4 => ?_)
    · skip
      have n_5 : ((1 : Int32)).toInt = 1 := rfl
      have z_6 : (0 : Int) ≤ ((1 : Int32)).toInt ∧ ((1 : Int32)).toInt ≤ 1 := ⟨by omega, by omega⟩
      exact Sf.ok ⟨h_M3, z_6⟩
    · skip
      exfalso; omega
set_option maxHeartbeats 2000000 in
theorem sL_setLeg {s : Nat → Int × Int} {k1 : Nat} {x1 : Int32} {x2 : Int32} {M : Mem} (h_M : OKb (fT s) M) : Sf (mL_setLeg 0 k1 x1 x2 M) (pX (fT s) (rI (0) (3)) []) := by
  unfold mL_setLeg
  refine Sf.t (sX6_setLeg h_M) (fun M3 r2 p_1 => ?_) (fun M3 e4 p_1 => ?_)
  · skip
    have h_M3 : OKb (fT s) M3 := p_1.1
    have p_1a : (0 : Int) ≤ (r2).toInt ∧ (r2).toInt ≤ 9999 := p_1.2
    have n_2 : ((0 : Int32)).toInt = 0 := rfl
    refine Sf.k (ok_in (by omega) (by omega)) ?_
    refine Sf.b (fun M7 e_M7 => ?_)
    have h_M7 : OKb (fT s) M7 := by rw [e_M7]; exact h_M3.pl
    have z_3 : (0 : Int) ≤ ((0 : Int32)).toInt ∧ ((0 : Int32)).toInt ≤ 3 := ⟨by omega, by omega⟩
    exact Sf.ok ⟨h_M7, z_3⟩
  · have h_M3 : OKb (fT s) M3 := p_1.1
    have p_1e : e4 ∈ [0, 1, 2] := p_1.2
    simp only [List.mem_cons, List.not_mem_nil, or_false] at p_1e
    refine Sf.i (fun c_4 => ?_) (fun c_4 => ?_)
    · skip
      have n_5 : ((1 : Int32)).toInt = 1 := rfl
      have z_6 : (0 : Int) ≤ ((1 : Int32)).toInt ∧ ((1 : Int32)).toInt ≤ 3 := ⟨by omega, by omega⟩
      exact Sf.ok ⟨h_M3, z_6⟩
    · skip
      refine Sf.i (fun c_7 => ?_) (fun c_7 => ?_)
      · skip
        have n_8 : ((2 : Int32)).toInt = 2 := rfl
        have z_9 : (0 : Int) ≤ ((2 : Int32)).toInt ∧ ((2 : Int32)).toInt ≤ 3 := ⟨by omega, by omega⟩
        exact Sf.ok ⟨h_M3, z_9⟩
      · skip
        refine Sf.i (fun c_10 => ?_) (fun c_10 => ?_)
        · skip
          have n_11 : ((3 : Int32)).toInt = 3 := rfl
          have z_12 : (0 : Int) ≤ ((3 : Int32)).toInt ∧ ((3 : Int32)).toInt ≤ 3 := ⟨by omega, by omega⟩
          exact Sf.ok ⟨h_M3, z_12⟩
        · skip
          exfalso; omega
set_option maxHeartbeats 2000000 in
theorem sL_setDirection_b16 {s : Nat → Int × Int} {k1 : Nat} {y1 : Int32} {y2 : Int64} {M : Mem} (h_M : OKb (fT s) M) (hy1 : (0 : Int) ≤ (y1).toInt ∧ (y1).toInt ≤ 0) : Sf (mL_setDirection_b16 0 k1 y1 y2 M) (pX (fT s) (rI (0) (2)) []) := by
  unfold mL_setDirection_b16
  refine Sf.k (ok_in (by omega) (by omega)) ?_
  refine Sf.b (fun M8 e_M8 => ?_)
  have h_M8 : OKb (fT s) M8 := by rw [e_M8]; exact h_M.pl
  have n_1 : ((0 : Int32)).toInt = 0 := rfl
  have z_2 : (0 : Int) ≤ ((0 : Int32)).toInt ∧ ((0 : Int32)).toInt ≤ 2 := ⟨by omega, by omega⟩
  exact Sf.ok ⟨h_M8, z_2⟩
set_option maxHeartbeats 2000000 in
theorem sL_setDirection {s : Nat → Int × Int} {k1 : Nat} {x1 : Int32} {x2 : Int32} {M : Mem} (h_M : OKb (fT s) M) : Sf (mL_setDirection 0 k1 x1 x2 M) (pX (fT s) (rI (0) (2)) []) := by
  unfold mL_setDirection
  refine Sf.t (sX6_setDirection h_M) (fun M3 r2 p_1 => ?_) (fun M3 e4 p_1 => ?_)
  · skip
    have h_M3 : OKb (fT s) M3 := p_1.1
    have p_1a : (0 : Int) ≤ (r2).toInt ∧ (r2).toInt ≤ 1 := p_1.2
    have n_2 : ((0 : Int32)).toInt = 0 := rfl
    refine Sf.i (fun c_3 => ?_) (fun c_3 => ?_)
    · have c_3 := i_eq.mp c_3
      have n_4 : ((0 : Int32)).toInt = 0 := rfl
      exact (sL_setDirection_b16 h_M3 ⟨by omega, by omega⟩)
    · have c_3 := i_ne c_3
      have n_5 : ((0 : Int32)).toInt = 0 := rfl
      exact (sL_setDirection_b16 h_M3 ⟨by omega, by omega⟩)
  · have h_M3 : OKb (fT s) M3 := p_1.1
    have p_1e : e4 ∈ [1, 2] := p_1.2
    simp only [List.mem_cons, List.not_mem_nil, or_false] at p_1e
    refine Sf.i (fun c_6 => ?_) (fun c_6 => ?_)
    · skip
      have n_7 : ((1 : Int32)).toInt = 1 := rfl
      have z_8 : (0 : Int) ≤ ((1 : Int32)).toInt ∧ ((1 : Int32)).toInt ≤ 2 := ⟨by omega, by omega⟩
      exact Sf.ok ⟨h_M3, z_8⟩
    · skip
      refine Sf.i (fun c_9 => ?_) (fun c_9 => ?_)
      · skip
        have n_10 : ((2 : Int32)).toInt = 2 := rfl
        have z_11 : (0 : Int) ≤ ((2 : Int32)).toInt ∧ ((2 : Int32)).toInt ≤ 2 := ⟨by omega, by omega⟩
        exact Sf.ok ⟨h_M3, z_11⟩
      · skip
        exfalso; omega
set_option maxHeartbeats 2000000 in
theorem sL_setTool {s : Nat → Int × Int} {k1 : Nat} {x1 : Int32} {x2 : Int32} {x3 : Int32} {M : Mem} (h_M : OKb (fT s) M) : Sf (mL_setTool 0 k1 x1 x2 x3 M) (pX (fT s) (rI (0) (1)) []) := by
  unfold mL_setTool
  refine Sf.t (sX6_setTool h_M) (fun M3 r2 p_1 => ?_) (fun M3 e4 p_1 => ?_)
  · skip
    have h_M3 : OKb (fT s) M3 := p_1.1
    have p_1a : (-2147483648 : Int) ≤ (r2).toInt ∧ (r2).toInt ≤ 2147483647 := p_1.2
    have n_2 : ((0 : Int32)).toInt = 0 := rfl
    refine Sf.k (ok_in (by omega) (by omega)) ?_
    refine Sf.b (fun M7 e_M7 => ?_)
    have h_M7 : OKb (fT s) M7 := by rw [e_M7]; exact h_M3.pl
    have z_3 : (0 : Int) ≤ ((0 : Int32)).toInt ∧ ((0 : Int32)).toInt ≤ 1 := ⟨by omega, by omega⟩
    exact Sf.ok ⟨h_M7, z_3⟩
  · have h_M3 : OKb (fT s) M3 := p_1.1
    have p_1e : e4 ∈ [0] := p_1.2
    simp only [List.mem_cons, List.not_mem_nil, or_false] at p_1e
    refine Sf.i (fun c_4 => ?_) (fun c_4 => ?_)
    · skip
      have n_5 : ((1 : Int32)).toInt = 1 := rfl
      have z_6 : (0 : Int) ≤ ((1 : Int32)).toInt ∧ ((1 : Int32)).toInt ≤ 1 := ⟨by omega, by omega⟩
      exact Sf.ok ⟨h_M3, z_6⟩
    · skip
      exfalso; omega
set_option maxHeartbeats 2000000 in
theorem sL_setSheet {s : Nat → Int × Int} {k1 : Nat} {x1 : Int32} {x2 : Int32} {x3 : Int32} {M : Mem} (h_M : OKb (fT s) M) : Sf (mL_setSheet 0 k1 x1 x2 x3 M) (pX (fT s) (rI (0) (1)) []) := by
  unfold mL_setSheet
  refine Sf.t (sX6_setSheet h_M) (fun M3 r2 p_1 => ?_) (fun M3 e4 p_1 => ?_)
  · skip
    have h_M3 : OKb (fT s) M3 := p_1.1
    have p_1a : (-2147483648 : Int) ≤ (r2).toInt ∧ (r2).toInt ≤ 2147483647 := p_1.2
    have n_2 : ((0 : Int32)).toInt = 0 := rfl
    refine Sf.k (ok_in (by omega) (by omega)) ?_
    refine Sf.b (fun M7 e_M7 => ?_)
    have h_M7 : OKb (fT s) M7 := by rw [e_M7]; exact h_M3.pl
    have z_3 : (0 : Int) ≤ ((0 : Int32)).toInt ∧ ((0 : Int32)).toInt ≤ 1 := ⟨by omega, by omega⟩
    exact Sf.ok ⟨h_M7, z_3⟩
  · have h_M3 : OKb (fT s) M3 := p_1.1
    have p_1e : e4 ∈ [0] := p_1.2
    simp only [List.mem_cons, List.not_mem_nil, or_false] at p_1e
    refine Sf.i (fun c_4 => ?_) (fun c_4 => ?_)
    · skip
      have n_5 : ((1 : Int32)).toInt = 1 := rfl
      have z_6 : (0 : Int) ≤ ((1 : Int32)).toInt ∧ ((1 : Int32)).toInt ≤ 1 := ⟨by omega, by omega⟩
      exact Sf.ok ⟨h_M3, z_6⟩
    · skip
      exfalso; omega
set_option maxHeartbeats 2000000 in
theorem sL_setCost {s : Nat → Int × Int} {k1 : Nat} {x1 : Int32} {x2 : Int32} {x3 : Int32} {M : Mem} (h_M : OKb (fT s) M) : Sf (mL_setCost 0 k1 x1 x2 x3 M) (pX (fT s) (rI (0) (1)) []) := by
  unfold mL_setCost
  refine Sf.t (sX6_setCost h_M) (fun M3 r2 p_1 => ?_) (fun M3 e4 p_1 => ?_)
  · skip
    have h_M3 : OKb (fT s) M3 := p_1.1
    have p_1a : (0 : Int) ≤ (r2).toInt ∧ (r2).toInt ≤ 99 := p_1.2
    have n_2 : ((0 : Int32)).toInt = 0 := rfl
    refine Sf.k (ok_in (by omega) (by omega)) ?_
    refine Sf.b (fun M7 e_M7 => ?_)
    have h_M7 : OKb (fT s) M7 := by rw [e_M7]; exact h_M3.pl
    have z_3 : (0 : Int) ≤ ((0 : Int32)).toInt ∧ ((0 : Int32)).toInt ≤ 1 := ⟨by omega, by omega⟩
    exact Sf.ok ⟨h_M7, z_3⟩
  · have h_M3 : OKb (fT s) M3 := p_1.1
    have p_1e : e4 ∈ [0] := p_1.2
    simp only [List.mem_cons, List.not_mem_nil, or_false] at p_1e
    refine Sf.i (fun c_4 => ?_) (fun c_4 => ?_)
    · skip
      have n_5 : ((1 : Int32)).toInt = 1 := rfl
      have z_6 : (0 : Int) ≤ ((1 : Int32)).toInt ∧ ((1 : Int32)).toInt ≤ 1 := ⟨by omega, by omega⟩
      exact Sf.ok ⟨h_M3, z_6⟩
    · skip
      exfalso; omega
