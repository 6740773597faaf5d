set_option maxHeartbeats 2000000 in
theorem sX6_append_b40 {s : Nat → Int × Int} {ih3 : Int32 → Int32 → Mem → Option (Mem × Unit)} {x1 : Int32} {x2 : Int32} {M : Mem} {d3 : Nat} (h_M : OKb (fT (sB s)) M) (hx2 : (0 : Int) ≤ (x2).toInt ∧ (x2).toInt ≤ 24) (he0 : (1 : Int) ≤ (rd M 0 1).toInt ∧ (rd M 0 1).toInt ≤ 600) (hih3 : ∀ (yx1 : Int32) (yx2 : Int32) (M : Mem), OKb (fT (sB s)) M → ((-8 : Int) ≤ (yx2).toInt ∧ (yx2).toInt ≤ 24) → (yx2).toInt - (-8) < d3 → Sf (ih3 yx1 yx2 M) (pM (fT (sB s)))) (hmu3 : (x2).toInt - (-8) ≤ d3) : Sf (mX6_append_b40 0 ih3 x1 x2 M) (pM (fT (sB s))) := by
  unfold mX6_append_b40
  have n_1 : (((-8) : Int32)).toInt = -8 := rfl
  try have a_2 : ((x2 + ((-8) : Int32))).toInt = (x2).toInt + (((-8) : Int32)).toInt := i_add (by omega) (by omega)
  refine Sf.b (fun x2_40 e_x2_40 => ?_)
  have d_x2_40 := congrArg Int32.toInt e_x2_40
  exact (hih3 _ _ _ h_M ⟨by omega, by omega⟩ (by omega))
set_option maxHeartbeats 2000000 in
theorem sX6_append_b3 {s : Nat → Int × Int} {ih3 : Int32 → Int32 → Mem → Option (Mem × Unit)} {x1 : Int32} {x2 : Int32} {M : Mem} {d3 : Nat} (h_M : OKb (fT (sB s)) M) (hx2 : (-8 : Int) ≤ (x2).toInt ∧ (x2).toInt ≤ 24) (hih3 : ∀ (yx1 : Int32) (yx2 : Int32) (M : Mem), OKb (fT (sB s)) M → ((-8 : Int) ≤ (yx2).toInt ∧ (yx2).toInt ≤ 24) → (yx2).toInt - (-8) < d3 → Sf (ih3 yx1 yx2 M) (pM (fT (sB s)))) (hmu3 : (x2).toInt - (-8) ≤ d3) : Sf (mX6_append_b3 0 ih3 x1 x2 M) (pM (fT (sB s))) := by
  unfold mX6_append_b3
  have n_1 : ((0 : Int32)).toInt = 0 := rfl
  refine Sf.i (fun c_2 => ?_) (fun c_2 => ?_)
  · have c_2 := i_lt.mp c_2
    exact Sf.ok h_M
  · have c_2 := i_nlt c_2
    have n_3 : ((600 : Int32)).toInt = 600 := rfl
    have b_4 : (0 : Int) ≤ (rd M 0 1).toInt ∧ (rd M 0 1).toInt ≤ 600 := h_M.at rfl
    refine Sf.i (fun c_5 => ?_) (fun c_5 => ?_)
    · have c_5 := i_le.mp c_5
      exact (sX6_append_b40 h_M ⟨by omega, by omega⟩ ⟨by omega, by omega⟩ hih3 (by omega))
    · have c_5 := i_nle c_5
      refine Sf.k (ok_in (by omega) (by omega)) ?_
      have v_6 := nar_byte (x := (((x1 >>> (x2 &&& 31))).toInt8).toInt32)
      have z_7 : (-128 : Int) ≤ ((vp_nar .byte ((((x1 >>> (x2 &&& 31))).toInt8).toInt32))).toInt ∧ ((vp_nar .byte ((((x1 >>> (x2 &&& 31))).toInt8).toInt32))).toInt ≤ 127 := ⟨by omega, by omega⟩
      refine Sf.b (fun M6 e_M6 => ?_)
      have h_M6 : OKb (fT (sB s)) M6 := by rw [e_M6]; exact h_M.put rfl z_7
      have w_8 : (rd M6 0 1).toInt = (rd M 0 1).toInt := by rw [e_M6, rd_wk (by omega)]
      have n_9 : ((1 : Int32)).toInt = 1 := rfl
      try have a_10 : (((rd M6 0 1) + (1 : Int32))).toInt = ((rd M6 0 1)).toInt + ((1 : Int32)).toInt := i_add (by omega) (by omega)
      have z_11 : (0 : Int) ≤ (((rd M6 0 1) + (1 : Int32))).toInt ∧ (((rd M6 0 1) + (1 : Int32))).toInt ≤ 600 := ⟨by omega, by omega⟩
      refine Sf.b (fun M7 e_M7 => ?_)
      have h_M7 : OKb (fT (sB s)) M7 := by rw [e_M7]; exact h_M6.put rfl z_11
      have w_12 : (rd M7 0 1).toInt = (((rd M6 0 1) + (1 : Int32))).toInt := by rw [e_M7, rd_we]
      exact (sX6_append_b40 h_M7 ⟨by omega, by omega⟩ ⟨by omega, by omega⟩ hih3 (by omega))
theorem sX6_append_l3_n {s : Nat → Int × Int}    : ∀ (n : Nat) (x1 : Int32) (x2 : Int32) (M : Mem) (h_M : OKb (fT (sB s)) M) (hx2 : (-8 : Int) ≤ (x2).toInt ∧ (x2).toInt ≤ 24)    (hmu : (x2).toInt - (-8) < n), Sf (mX6_append_l3 0 n x1 x2 M) (pM (fT (sB s))) := by
  intro n
  induction n with
  | zero => intro x1 x2 M h_M hx2 hmu; exfalso; omega
  | succ n IH => intro x1 x2 M h_M hx2 hmu; exact sX6_append_b3  h_M hx2    IH (by omega)
theorem sX6_append_l3 {s : Nat → Int × Int}  {x1 : Int32} {x2 : Int32} {M : Mem}  (h_M : OKb (fT (sB s)) M) (hx2 : (-8 : Int) ≤ (x2).toInt ∧ (x2).toInt ≤ 24)    (hmu : (x2).toInt - (-8) < 5000) : Sf (mX6_append_l3 0 5000 x1 x2 M) (pM (fT (sB s))) :=
  sX6_append_l3_n   5000 _ _ M h_M hx2    hmu
set_option maxHeartbeats 2000000 in
theorem sX6_append {s : Nat → Int × Int} {x1 : Int32} {M : Mem} (h_M : OKb (fT (sB s)) M) : Sf (mX6_append 0 x1 M) (pM (fT (sB s))) := by
  unfold mX6_append
  have n_1 : ((24 : Int32)).toInt = 24 := rfl
  exact (sX6_append_l3 h_M ⟨by omega, by omega⟩ (by omega))
set_option maxHeartbeats 2000000 in
theorem sX6_feed {s : Nat → Int × Int} {x1 : Int32} {x2 : Int32} {x3 : Int32} {x4 : Int32} {x5 : Int32} {M : Mem} (h_M : OKb (fT (sB s)) M) : Sf (mX6_feed 0 x1 x2 x3 x4 x5 M) (pMI (fT (sB s)) (-2) (600)) := by
  unfold mX6_feed
  have b_1 : (0 : Int) ≤ (rd M 0 1).toInt ∧ (rd M 0 1).toInt ≤ 600 := h_M.at rfl
  have n_2 : ((20 : Int32)).toInt = 20 := rfl
  try have a_3 : (((rd M 0 1) + (20 : Int32))).toInt = ((rd M 0 1)).toInt + ((20 : Int32)).toInt := i_add (by omega) (by omega)
  have n_4 : ((600 : Int32)).toInt = 600 := rfl
  refine Sf.i (fun c_5 => ?_) (fun c_5 => ?_)
  · have c_5 := i_le.mp c_5
    refine Sf.m (sX6_append h_M) (fun M4 _ h_M4 => ?_)
    have h_M4 : OKb (fT (sB s)) M4 := h_M4
    refine Sf.m (sX6_append h_M4) (fun M7 _ h_M7 => ?_)
    have h_M7 : OKb (fT (sB s)) M7 := h_M7
    refine Sf.m (sX6_append h_M7) (fun M10 _ h_M10 => ?_)
    have h_M10 : OKb (fT (sB s)) M10 := h_M10
    refine Sf.m (sX6_append h_M10) (fun M13 _ h_M13 => ?_)
    have h_M13 : OKb (fT (sB s)) M13 := h_M13
    refine Sf.m (sX6_append h_M13) (fun M16 _ h_M16 => ?_)
    have h_M16 : OKb (fT (sB s)) M16 := h_M16
    have b_11 : (0 : Int) ≤ (rd M16 0 1).toInt ∧ (rd M16 0 1).toInt ≤ 600 := h_M16.at rfl
    have z_12 : (-2 : Int) ≤ ((rd M16 0 1)).toInt ∧ ((rd M16 0 1)).toInt ≤ 600 := ⟨by omega, by omega⟩
    exact Sf.ok ⟨h_M16, z_12⟩
  · have c_5 := i_nle c_5
    have n_13 : (((-2) : Int32)).toInt = -2 := rfl
    have z_14 : (-2 : Int) ≤ (((-2) : Int32)).toInt ∧ (((-2) : Int32)).toInt ≤ 600 := ⟨by omega, by omega⟩
    exact Sf.ok ⟨h_M, z_14⟩
set_option maxHeartbeats 2000000 in
theorem sX6_load_b12 {s : Nat → Int × Int} {M : Mem} (h_M : OKb (fT (sB s)) M) : Sf (mX6_load_b12 0 M) (pX (fT (sB s)) (rI (-3) (8)) [0]) := by
  unfold mX6_load_b12
  exact Sf.ok ⟨h_M, show (0 : Nat) ∈ [0] from by decide⟩
set_option maxHeartbeats 2000000 in
theorem sX6_load {s : Nat → Int × Int} {x1 : Int32} {M : Mem} (h_M : OKb (fT (sB s)) M) : Sf (mX6_load 0 x1 M) (pX (fT (sB s)) (rI (-3) (8)) [0]) := by
  unfold mX6_load
  have n_1 : ((0 : Int32)).toInt = 0 := rfl
  refine Sf.i (fun c_2 => ?_) (fun c_2 => ?_)
  · have c_2 := i_lt.mp c_2
    exact (sX6_load_b12 h_M)
  · have c_2 := i_nlt c_2
    have b_3 : (0 : Int) ≤ (rd M 0 1).toInt ∧ (rd M 0 1).toInt ≤ 600 := h_M.at rfl
    refine Sf.i (fun c_4 => ?_) (fun c_4 => ?_)
    · have c_4 := i_le.mp c_4
      have n_5 : ((0 : Int32)).toInt = 0 := rfl
      have z_6 : (0 : Int) ≤ ((0 : Int32)).toInt ∧ ((0 : Int32)).toInt ≤ 600 := ⟨by omega, by omega⟩
      refine Sf.b (fun M3 e_M3 => ?_)
      have h_M3 : OKb (fT (sB s)) M3 := by rw [e_M3]; exact h_M.put rfl z_6
      refine Sf.m (sX4_readText isP_13 h_M3 ⟨by omega, by omega⟩) (fun M7 r6 p_7 => ?_)
      have h_M7 : OKb (fT (sB s)) M7 := p_7.1
      have p_7 : (0 : Int) ≤ (r6).toInt ∧ (r6).toInt ≤ (1 : Int) := p_7.2
      refine Sf.i (fun c_8 => ?_) (fun c_8 => ?_)
      · have c_8 := i_eq.mp c_8
        have n_9 : (((-3) : Int32)).toInt = -3 := rfl
        have z_10 : (-3 : Int) ≤ (((-3) : Int32)).toInt ∧ (((-3) : Int32)).toInt ≤ 8 := ⟨by omega, by omega⟩
        exact Sf.ok ⟨h_M7, z_10⟩
      · have c_8 := i_ne c_8
        refine Sf.m (sX1_copyFrom isP_5 isP_13 h_M7) (fun M11 _ p_11 => ?_)
        have h_M11 : OKb (fT (sB s)) M11 := p_11.1
        have gq_M11 : ∀ j, rd M11 21 j = rd M7 21 j := p_11.2
        refine Sf.m (sX0_forgetAll h_M11) (fun M14 _ h_M14 => ?_)
        have h_M14 : OKb (fT (sB s)) M14 := h_M14
        refine Sf.c (sX1_bendCount isP_5 h_M14) (fun r16 p_13 => ?_)
        obtain ⟨p_13a, p_13b⟩ := p_13
        have z_14 : (-3 : Int) ≤ (r16).toInt ∧ (r16).toInt ≤ 8 := ⟨by omega, by omega⟩
        exact Sf.ok ⟨h_M14, z_14⟩
    · have c_4 := i_nle c_4
      exact (sX6_load_b12 h_M)
set_option maxHeartbeats 2000000 in
theorem sX6_errorKind {s : Nat → Int × Int} {M : Mem} (h_M : OKb (fT s) M) : Sf (mX6_errorKind 0 M) (pI (0) (5)) := by
  unfold mX6_errorKind
  have b_1 : (0 : Int) ≤ (rd M 2 0).toInt ∧ (rd M 2 0).toInt ≤ 5 := h_M.at rfl
  have z_2 : (0 : Int) ≤ ((rd M 2 0)).toInt ∧ ((rd M 2 0)).toInt ≤ 5 := ⟨by omega, by omega⟩
  exact Sf.ok z_2
set_option maxHeartbeats 2000000 in
theorem sX6_legs {s : Nat → Int × Int} {M : Mem} (h_M : OKb (fT s) M) : Sf (mX6_legs 0 M) (pI (0) (9)) := by
  unfold mX6_legs
  have b_1 : (0 : Int) ≤ (rd M 5 0).toInt ∧ (rd M 5 0).toInt ≤ 9 := h_M.at rfl
  have z_2 : (0 : Int) ≤ ((rd M 5 0)).toInt ∧ ((rd M 5 0)).toInt ≤ 9 := ⟨by omega, by omega⟩
  exact Sf.ok z_2
set_option maxHeartbeats 2000000 in
theorem sX6_requireLeg_b21 {s : Nat → Int × Int} {M : Mem} (h_M : OKb (fT s) M) : Sf (mX6_requireLeg_b21 0 M) (pX (fT s) (fun _ => False) [1]) := by
  unfold mX6_requireLeg_b21
  exact Sf.ok ⟨h_M, show (1 : Nat) ∈ [1] from by decide⟩
set_option maxHeartbeats 2000000 in
theorem sX6_requireLeg {s : Nat → Int × Int} {x1 : Int32} {M : Mem} (h_M : OKb (fT s) M) : Sf (mX6_requireLeg 0 x1 M) (pX (fT s) (fun _ => ((0 : Int) ≤ (x1).toInt ∧ (x1).toInt ≤ 8)) [1]) := by
  unfold mX6_requireLeg
  have n_1 : ((0 : Int32)).toInt = 0 := rfl
  refine Sf.i (fun c_2 => ?_) (fun c_2 => ?_)
  · have c_2 := i_lt.mp c_2
    exact Sf.mono (sX6_requireLeg_b21 h_M) (fun q h => pX_throw h)
  · have c_2 := i_nlt c_2
    have b_3 : (0 : Int) ≤ (rd M 5 0).toInt ∧ (rd M 5 0).toInt ≤ 9 := h_M.at rfl
    refine Sf.i (fun c_4 => ?_) (fun c_4 => ?_)
    · have c_4 := i_le.mp c_4
      exact Sf.mono (sX6_requireLeg_b21 h_M) (fun q h => pX_throw h)
    · have c_4 := i_nle c_4
      have n_5 : ((9 : Int32)).toInt = 9 := rfl
      refine Sf.i (fun c_6 => ?_) (fun c_6 => ?_)
      · have c_6 := i_lt.mp c_6
        exact Sf.ok ⟨h_M, by omega⟩
      · have c_6 := i_nlt c_6
        exfalso; omega
set_option maxHeartbeats 2000000 in
theorem sX6_requireBend_b21 {s : Nat → Int × Int} {M : Mem} (h_M : OKb (fT s) M) : Sf (mX6_requireBend_b21 0 M) (pX (fT s) (fun _ => False) [1]) := by
  unfold mX6_requireBend_b21
  exact Sf.ok ⟨h_M, show (1 : Nat) ∈ [1] from by decide⟩
set_option maxHeartbeats 2000000 in
theorem sX6_requireBend {s : Nat → Int × Int} {x1 : Int32} {M : Mem} (h_M : OKb (fT s) M) : Sf (mX6_requireBend 0 x1 M) (pX (fT s) (fun _ => ((0 : Int) ≤ (x1).toInt ∧ (x1).toInt ≤ 7)) [1]) := by
  unfold mX6_requireBend
  have n_1 : ((0 : Int32)).toInt = 0 := rfl
  refine Sf.i (fun c_2 => ?_) (fun c_2 => ?_)
  · have c_2 := i_lt.mp c_2
    exact Sf.mono (sX6_requireBend_b21 h_M) (fun q h => pX_throw h)
  · have c_2 := i_nlt c_2
    refine Sf.c (sX1_bendCount isP_5 h_M) (fun r3 p_3 => ?_)
    obtain ⟨p_3a, p_3b⟩ := p_3
    refine Sf.i (fun c_4 => ?_) (fun c_4 => ?_)
    · have c_4 := i_le.mp c_4
      exact Sf.mono (sX6_requireBend_b21 h_M) (fun q h => pX_throw h)
    · have c_4 := i_nle c_4
      have n_5 : ((8 : Int32)).toInt = 8 := rfl
      refine Sf.i (fun c_6 => ?_) (fun c_6 => ?_)
      · have c_6 := i_lt.mp c_6
        exact Sf.ok ⟨h_M, by omega⟩
      · have c_6 := i_nlt c_6
        exfalso; omega
set_option maxHeartbeats 2000000 in
theorem sX6_isUp {s : Nat → Int × Int} {x1 : Int32} {M : Mem} (h_M : OKb (fT s) M) : Sf (mX6_isUp 0 x1 M) (pX (fT s) (rI (0) (1)) [1]) := by
  unfold mX6_isUp
  refine Sf.x (sX6_requireBend h_M) (fun M3 _ p_1 => ?_) (fun M e h => ⟨h.1, h.2⟩)
  have h_M3 : OKb (fT s) M3 := p_1.1
  have p_1h : ((0 : Int) ≤ (x1).toInt ∧ (x1).toInt ≤ 7) := p_1.2
  refine Sf.c (sX1_goesUp isP_5 h_M3 ⟨by omega, by omega⟩) (fun r6 p_2 => ?_)
  obtain ⟨p_2a, p_2b⟩ := p_2
  refine Sf.k (isB_in ⟨by omega, by omega⟩) ?_
  have z_3 : (0 : Int) ≤ (r6).toInt ∧ (r6).toInt ≤ 1 := ⟨by omega, by omega⟩
  exact Sf.ok ⟨h_M3, z_3⟩
set_option maxHeartbeats 2000000 in
theorem sX6_requireChoice_b9 {s : Nat → Int × Int} {M : Mem} (h_M : OKb (fT s) M) : Sf (mX6_requireChoice_b9 M) (pX (fT s) (fun _ => False) [0]) := by
  unfold mX6_requireChoice_b9
  exact Sf.ok ⟨h_M, show (0 : Nat) ∈ [0] from by decide⟩
set_option maxHeartbeats 2000000 in
theorem sX6_requireChoice {s : Nat → Int × Int} {x0 : Int32} {x1 : Int32} {M : Mem} (h_M : OKb (fT s) M) (hx1 : (1 : Int) ≤ (x1).toInt ∧ (x1).toInt ≤ 3) : Sf (mX6_requireChoice x0 x1 M) (pX (fT s) (fun _ => ((0 : Int) ≤ (x0).toInt ∧ (x0).toInt ≤ (x1).toInt)) [0]) := by
  unfold mX6_requireChoice
  have n_1 : ((0 : Int32)).toInt = 0 := rfl
  refine Sf.i (fun c_2 => ?_) (fun c_2 => ?_)
  · have c_2 := i_lt.mp c_2
    exact Sf.mono (sX6_requireChoice_b9 h_M) (fun q h => pX_throw h)
  · have c_2 := i_nlt c_2
    refine Sf.i (fun c_3 => ?_) (fun c_3 => ?_)
    · have c_3 := i_le.mp c_3
      exact Sf.ok ⟨h_M, by omega⟩
    · have c_3 := i_nle c_3
      exact Sf.mono (sX6_requireChoice_b9 h_M) (fun q h => pX_throw h)
set_option maxHeartbeats 2000000 in
theorem sX6_finishedCorner {s : Nat → Int × Int} {x1 : Int32} {x2 : Int32} {M : Mem} (h_M : OKb (fT s) M) : Sf (mX6_finishedCorner 0 x1 x2 M) (pX (fT s) (rI (-2147483648) (2147483647)) [0, 1]) := by
  unfold mX6_finishedCorner
  refine Sf.x (sX6_requireLeg h_M) (fun M3 _ p_1 => ?_) (fun M e h => ⟨h.1, mem_sub (by decide) h.2⟩)
  have h_M3 : OKb (fT s) M3 := p_1.1
  have p_1h : ((0 : Int) ≤ (x1).toInt ∧ (x1).toInt ≤ 8) := p_1.2
  have n_2 : ((1 : Int32)).toInt = 1 := rfl
  refine Sf.x (sX6_requireChoice h_M3 ⟨by omega, by omega⟩) (fun M7 _ p_3 => ?_) (fun M e h => ⟨h.1, mem_sub (by decide) h.2⟩)
  have h_M7 : OKb (fT s) M7 := p_3.1
  have p_3h : ((0 : Int) ≤ (x2).toInt ∧ (x2).toInt ≤ ((1 : Int32)).toInt) := p_3.2
  refine Sf.m (sX2_layFinished isL_103 isP_5 h_M7) (fun M11 _ h_M11 => ?_)
  have h_M11 : OKb (fT s) M11 := h_M11
  have n_5 : ((0 : Int32)).toInt = 0 := rfl
  refine Sf.i (fun c_6 => ?_) (fun c_6 => ?_)
  · have c_6 := i_eq.mp c_6
    refine Sf.k (ok_in (by omega) (by omega)) ?_
    exact Sf.ok ⟨h_M11, (i_rng _)⟩
  · have c_6 := i_ne c_6
    refine Sf.k (ok_in (by omega) (by omega)) ?_
    exact Sf.ok ⟨h_M11, (i_rng _)⟩
set_option maxHeartbeats 2000000 in
theorem sX6_made {s : Nat → Int × Int} {M : Mem} (h_M : OKb (fT s) M) : Sf (mX6_made 0 M) (pI (0) (255)) := by
  unfold mX6_made
  have b_1 : (0 : Int) ≤ (rd M 5 13).toInt ∧ (rd M 5 13).toInt ≤ 255 := h_M.at rfl
  have z_2 : (0 : Int) ≤ ((rd M 5 13)).toInt ∧ ((rd M 5 13)).toInt ≤ 255 := ⟨by omega, by omega⟩
  exact Sf.ok z_2
set_option maxHeartbeats 2000000 in
theorem sX6_requireStep {s : Nat → Int × Int} {x1 : Int32} {x2 : Int32} {M : Mem} (h_M : OKb (fT s) M) : Sf (mX6_requireStep 0 x1 x2 M) (pX (fT s) (fun _ => ((0 : Int) ≤ (x1).toInt ∧ (x1).toInt ≤ 7) ∧ ((0 : Int) ≤ (x2).toInt ∧ (x2).toInt ≤ 1)) [0, 1]) := by
  unfold mX6_requireStep
  refine Sf.x (sX6_requireBend h_M) (fun M3 _ p_1 => ?_) (fun M e h => ⟨h.1, mem_sub (by decide) h.2⟩)
  have h_M3 : OKb (fT s) M3 := p_1.1
  have p_1h : ((0 : Int) ≤ (x1).toInt ∧ (x1).toInt ≤ 7) := p_1.2
  have n_2 : ((1 : Int32)).toInt = 1 := rfl
  refine Sf.x (sX6_requireChoice h_M3 ⟨by omega, by omega⟩) (fun M7 _ p_3 => ?_) (fun M e h => ⟨h.1, mem_sub (by decide) h.2⟩)
  have h_M7 : OKb (fT s) M7 := p_3.1
  have p_3h : ((0 : Int) ≤ (x2).toInt ∧ (x2).toInt ≤ ((1 : Int32)).toInt) := p_3.2
  exact Sf.ok ⟨h_M7, by omega⟩
set_option maxHeartbeats 2000000 in
theorem sX6_reasonNow {s : Nat → Int × Int} {x1 : Int32} {M : Mem} (h_M : OKb (fT s) M) (hx1 : (0 : Int) ≤ (x1).toInt ∧ (x1).toInt ≤ 15) : Sf (mX6_reasonNow 0 x1 M) (pMI (fT s) (0) (6)) := by
  unfold mX6_reasonNow
  have b_1 : (0 : Int) ≤ (rd M 5 13).toInt ∧ (rd M 5 13).toInt ≤ 255 := h_M.at rfl
  refine Sf.m (sX2_reasonFor isL_103 isP_5 h_M ⟨by omega, by omega⟩ ⟨by omega, by omega⟩) (fun M3 r2 p_2 => ?_)
  have h_M3 : OKb (fT s) M3 := p_2.1
  have p_2 : (0 : Int) ≤ (r2).toInt ∧ (r2).toInt ≤ (6 : Int) := p_2.2
  have z_3 : (0 : Int) ≤ (r2).toInt ∧ (r2).toInt ≤ 6 := ⟨by omega, by omega⟩
  exact Sf.ok ⟨h_M3, z_3⟩
set_option maxHeartbeats 2000000 in
theorem sX6_reason {s : Nat → Int × Int} {x1 : Int32} {x2 : Int32} {M : Mem} (h_M : OKb (fT s) M) : Sf (mX6_reason 0 x1 x2 M) (pX (fT s) (rI (0) (6)) [0, 1]) := by
  unfold mX6_reason
  refine Sf.x (sX6_requireStep h_M) (fun M3 _ p_1 => ?_) (fun M e h => ⟨h.1, h.2⟩)
  have h_M3 : OKb (fT s) M3 := p_1.1
  have p_1h : ((0 : Int) ≤ (x1).toInt ∧ (x1).toInt ≤ 7) ∧ ((0 : Int) ≤ (x2).toInt ∧ (x2).toInt ≤ 1) := p_1.2
  have n_2 : ((2 : Int32)).toInt = 2 := rfl
  try have a_3 : (((2 : Int32) * x1)).toInt = 2 * (x1).toInt := i_mulc (by omega) (by omega) (by omega)
  try have a_4 : ((((2 : Int32) * x1) + x2)).toInt = (((2 : Int32) * x1)).toInt + (x2).toInt := i_add (by omega) (by omega)
  refine Sf.m (sX6_reasonNow h_M3 ⟨by omega, by omega⟩) (fun M7 r6 p_5 => ?_)
  have h_M7 : OKb (fT s) M7 := p_5.1
  have p_5 : (0 : Int) ≤ (r6).toInt ∧ (r6).toInt ≤ (6 : Int) := p_5.2
  have z_6 : (0 : Int) ≤ (r6).toInt ∧ (r6).toInt ≤ 6 := ⟨by omega, by omega⟩
  exact Sf.ok ⟨h_M7, z_6⟩
set_option maxHeartbeats 2000000 in
theorem sX6_gaugeNow {s : Nat → Int × Int} {x1 : Int32} {M : Mem} (h_M : OKb (fT s) M) (hx1 : (0 : Int) ≤ (x1).toInt ∧ (x1).toInt ≤ 15) : Sf (mX6_gaugeNow 0 x1 M) (pMI (fT s) (0) (2147483647)) := by
  unfold mX6_gaugeNow
  have b_1 : (0 : Int) ≤ (rd M 5 13).toInt ∧ (rd M 5 13).toInt ≤ 255 := h_M.at rfl
  refine Sf.m (sX2_layStep isL_103 isP_5 h_M ⟨by omega, by omega⟩ ⟨by omega, by omega⟩) (fun M3 _ h_M3 => ?_)
  have h_M3 : OKb (fT s) M3 := h_M3
  refine Sf.c (sX2_reachToBack isL_103 h_M3) (fun r5 p_3 => ?_)
  obtain ⟨p_3a, p_3b⟩ := p_3
  have z_4 : (0 : Int) ≤ (r5).toInt ∧ (r5).toInt ≤ 2147483647 := ⟨by omega, by omega⟩
  exact Sf.ok ⟨h_M3, z_4⟩
set_option maxHeartbeats 2000000 in
theorem sX6_gauge {s : Nat → Int × Int} {x1 : Int32} {x2 : Int32} {M : Mem} (h_M : OKb (fT s) M) : Sf (mX6_gauge 0 x1 x2 M) (pX (fT s) (rI (0) (2147483647)) [0, 1]) := by
  unfold mX6_gauge
  refine Sf.x (sX6_requireStep h_M) (fun M3 _ p_1 => ?_) (fun M e h => ⟨h.1, h.2⟩)
  have h_M3 : OKb (fT s) M3 := p_1.1
  have p_1h : ((0 : Int) ≤ (x1).toInt ∧ (x1).toInt ≤ 7) ∧ ((0 : Int) ≤ (x2).toInt ∧ (x2).toInt ≤ 1) := p_1.2
  have n_2 : ((2 : Int32)).toInt = 2 := rfl
  try have a_3 : (((2 : Int32) * x1)).toInt = 2 * (x1).toInt := i_mulc (by omega) (by omega) (by omega)
  try have a_4 : ((((2 : Int32) * x1) + x2)).toInt = (((2 : Int32) * x1)).toInt + (x2).toInt := i_add (by omega) (by omega)
  refine Sf.m (sX6_gaugeNow h_M3 ⟨by omega, by omega⟩) (fun M7 r6 p_5 => ?_)
  have h_M7 : OKb (fT s) M7 := p_5.1
  have p_5 : (0 : Int) ≤ (r6).toInt ∧ (r6).toInt ≤ (2147483647 : Int) := p_5.2
  have z_6 : (0 : Int) ≤ (r6).toInt ∧ (r6).toInt ≤ 2147483647 := ⟨by omega, by omega⟩
  exact Sf.ok ⟨h_M7, z_6⟩
set_option maxHeartbeats 2000000 in
theorem sX6_corner {s : Nat → Int × Int} {x1 : Int32} {x2 : Int32} {x3 : Int32} {x4 : Int32} {M : Mem} (h_M : OKb (fT s) M) : Sf (mX6_corner 0 x1 x2 x3 x4 M) (pX (fT s) (rI (-2147483648) (2147483647)) [0, 1]) := by
  unfold mX6_corner
  refine Sf.x (sX6_requireBend h_M) (fun M3 _ p_1 => ?_) (fun M e h => ⟨h.1, mem_sub (by decide) h.2⟩)
  have h_M3 : OKb (fT s) M3 := p_1.1
  have p_1h : ((0 : Int) ≤ (x1).toInt ∧ (x1).toInt ≤ 7) := p_1.2
  refine Sf.x (sX6_requireLeg h_M3) (fun M7 _ p_2 => ?_) (fun M e h => ⟨h.1, mem_sub (by decide) h.2⟩)
  have h_M7 : OKb (fT s) M7 := p_2.1
  have p_2h : ((0 : Int) ≤ (x3).toInt ∧ (x3).toInt ≤ 8) := p_2.2
  have n_3 : ((1 : Int32)).toInt = 1 := rfl
  refine Sf.x (sX6_requireChoice h_M7 ⟨by omega, by omega⟩) (fun M11 _ p_4 => ?_) (fun M e h => ⟨h.1, mem_sub (by decide) h.2⟩)
  have h_M11 : OKb (fT s) M11 := p_4.1
  have p_4h : ((0 : Int) ≤ (x2).toInt ∧ (x2).toInt ≤ ((1 : Int32)).toInt) := p_4.2
  refine Sf.x (sX6_requireChoice h_M11 ⟨by omega, by omega⟩) (fun M15 _ p_5 => ?_) (fun M e h => ⟨h.1, mem_sub (by decide) h.2⟩)
  have h_M15 : OKb (fT s) M15 := p_5.1
  have p_5h : ((0 : Int) ≤ (x4).toInt ∧ (x4).toInt ≤ ((1 : Int32)).toInt) := p_5.2
  have b_6 : (0 : Int) ≤ (rd M15 5 13).toInt ∧ (rd M15 5 13).toInt ≤ 255 := h_M15.at rfl
  have n_7 : ((2 : Int32)).toInt = 2 := rfl
  try have a_8 : (((2 : Int32) * x1)).toInt = 2 * (x1).toInt := i_mulc (by omega) (by omega) (by omega)
  try have a_9 : ((((2 : Int32) * x1) + x2)).toInt = (((2 : Int32) * x1)).toInt + (x2).toInt := i_add (by omega) (by omega)
  refine Sf.m (sX2_layStep isL_103 isP_5 h_M15 ⟨by omega, by omega⟩ ⟨by omega, by omega⟩) (fun M19 _ h_M19 => ?_)
  have h_M19 : OKb (fT s) M19 := h_M19
  have n_11 : ((0 : Int32)).toInt = 0 := rfl
  refine Sf.i (fun c_12 => ?_) (fun c_12 => ?_)
  · have c_12 := i_eq.mp c_12
    refine Sf.k (ok_in (by omega) (by omega)) ?_
    exact Sf.ok ⟨h_M19, (i_rng _)⟩
  · have c_12 := i_ne c_12
    refine Sf.k (ok_in (by omega) (by omega)) ?_
    exact Sf.ok ⟨h_M19, (i_rng _)⟩
set_option maxHeartbeats 2000000 in
theorem sX6_top {s : Nat → Int × Int} {x1 : Int32} {x2 : Int32} {M : Mem} (h_M : OKb (fT s) M) : Sf (mX6_top 0 x1 x2 M) (pX (fT s) (rI (0) (2147483647)) [0, 1]) := by
  unfold mX6_top
  refine Sf.x (sX6_requireStep h_M) (fun M3 _ p_1 => ?_) (fun M e h => ⟨h.1, h.2⟩)
  have h_M3 : OKb (fT s) M3 := p_1.1
  have p_1h : ((0 : Int) ≤ (x1).toInt ∧ (x1).toInt ≤ 7) ∧ ((0 : Int) ≤ (x2).toInt ∧ (x2).toInt ≤ 1) := p_1.2
  have b_2 : (0 : Int) ≤ (rd M3 5 13).toInt ∧ (rd M3 5 13).toInt ≤ 255 := h_M3.at rfl
  have n_3 : ((2 : Int32)).toInt = 2 := rfl
  try have a_4 : (((2 : Int32) * x1)).toInt = 2 * (x1).toInt := i_mulc (by omega) (by omega) (by omega)
  try have a_5 : ((((2 : Int32) * x1) + x2)).toInt = (((2 : Int32) * x1)).toInt + (x2).toInt := i_add (by omega) (by omega)
  refine Sf.m (sX2_layStep isL_103 isP_5 h_M3 ⟨by omega, by omega⟩ ⟨by omega, by omega⟩) (fun M7 _ h_M7 => ?_)
  have h_M7 : OKb (fT s) M7 := h_M7
  refine Sf.c (sX2_topOfFreeSide isL_103 h_M7) (fun r9 p_7 => ?_)
  obtain ⟨p_7a, p_7b⟩ := p_7
  have z_8 : (0 : Int) ≤ (r9).toInt ∧ (r9).toInt ≤ 2147483647 := ⟨by omega, by omega⟩
  exact Sf.ok ⟨h_M7, z_8⟩
set_option maxHeartbeats 2000000 in
theorem sX6_hitting {s : Nat → Int × Int} {x1 : Int32} {x2 : Int32} {M : Mem} (h_M : OKb (fT s) M) : Sf (mX6_hitting 0 x1 x2 M) (pX (fT s) (rI (0) (4095)) [0, 1]) := by
  unfold mX6_hitting
  refine Sf.x (sX6_requireStep h_M) (fun M3 _ p_1 => ?_) (fun M e h => ⟨h.1, h.2⟩)
  have h_M3 : OKb (fT s) M3 := p_1.1
  have p_1h : ((0 : Int) ≤ (x1).toInt ∧ (x1).toInt ≤ 7) ∧ ((0 : Int) ≤ (x2).toInt ∧ (x2).toInt ≤ 1) := p_1.2
  have b_2 : (0 : Int) ≤ (rd M3 5 13).toInt ∧ (rd M3 5 13).toInt ≤ 255 := h_M3.at rfl
  have n_3 : ((2 : Int32)).toInt = 2 := rfl
  try have a_4 : (((2 : Int32) * x1)).toInt = 2 * (x1).toInt := i_mulc (by omega) (by omega) (by omega)
  try have a_5 : ((((2 : Int32) * x1) + x2)).toInt = (((2 : Int32) * x1)).toInt + (x2).toInt := i_add (by omega) (by omega)
  refine Sf.m (sX2_layStep isL_103 isP_5 h_M3 ⟨by omega, by omega⟩ ⟨by omega, by omega⟩) (fun M7 _ h_M7 => ?_)
  have h_M7 : OKb (fT s) M7 := h_M7
  refine Sf.c (sX2_legsHitting isL_103 isP_5 h_M7) (fun r9 p_7 => ?_)
  obtain ⟨p_7a, p_7b⟩ := p_7
  have z_8 : (0 : Int) ≤ (r9).toInt ∧ (r9).toInt ≤ 4095 := ⟨by omega, by omega⟩
  exact Sf.ok ⟨h_M7, z_8⟩
set_option maxHeartbeats 2000000 in
theorem sX6_possible {s : Nat → Int × Int} {M : Mem} (h_M : OKb (fT s) M) : Sf (mX6_possible 0 M) (pMI (fT s) (0) (65535)) := by
  unfold mX6_possible
  have b_1 : (0 : Int) ≤ (rd M 5 13).toInt ∧ (rd M 5 13).toInt ≤ 255 := h_M.at rfl
  refine Sf.m (sX2_possibleSteps isL_103 isP_5 h_M ⟨by omega, by omega⟩) (fun M3 r2 p_2 => ?_)
  have h_M3 : OKb (fT s) M3 := p_2.1
  have p_2 : (0 : Int) ≤ (r2).toInt ∧ (r2).toInt ≤ (65535 : Int) := p_2.2
  have z_3 : (0 : Int) ≤ (r2).toInt ∧ (r2).toInt ≤ 65535 := ⟨by omega, by omega⟩
  exact Sf.ok ⟨h_M3, z_3⟩
set_option maxHeartbeats 2000000 in
theorem sX6_costNow {s : Nat → Int × Int} {x1 : Int32} {M : Mem} (h_M : OKb (fT s) M) (hx1 : (0 : Int) ≤ (x1).toInt ∧ (x1).toInt ≤ 15) : Sf (mX6_costNow 0 x1 M) (pMI (fT s) (0) (297)) := by
  unfold mX6_costNow
  refine Sf.c (sX1_lastCode isP_5 h_M) (fun r2 p_1 => ?_)
  obtain ⟨p_1a, p_1b⟩ := p_1
  refine Sf.c (sX1_lastGauge isP_5 h_M) (fun r5 p_2 => ?_)
  obtain ⟨p_2a, p_2b⟩ := p_2
  refine Sf.m (sX6_gaugeNow h_M ⟨by omega, by omega⟩) (fun M9 r8 p_3 => ?_)
  have h_M9 : OKb (fT s) M9 := p_3.1
  have p_3 : (0 : Int) ≤ (r8).toInt ∧ (r8).toInt ≤ (2147483647 : Int) := p_3.2
  have g_4 := i_rng r8
  refine Sf.c (sX1_priceBetween isP_5 h_M9 ⟨by omega, by omega⟩ ⟨by omega, by omega⟩ ⟨by omega, by omega⟩) (fun r11 p_5 => ?_)
  obtain ⟨p_5a, p_5b⟩ := p_5
  have z_6 : (0 : Int) ≤ (r11).toInt ∧ (r11).toInt ≤ 297 := ⟨by omega, by omega⟩
  exact Sf.ok ⟨h_M9, z_6⟩
set_option maxHeartbeats 2000000 in
theorem sX6_costOf {s : Nat → Int × Int} {x1 : Int32} {x2 : Int32} {M : Mem} (h_M : OKb (fT s) M) : Sf (mX6_costOf 0 x1 x2 M) (pX (fT s) (rI (0) (297)) [0, 1]) := by
  unfold mX6_costOf
  refine Sf.x (sX6_requireStep h_M) (fun M3 _ p_1 => ?_) (fun M e h => ⟨h.1, h.2⟩)
  have h_M3 : OKb (fT s) M3 := p_1.1
  have p_1h : ((0 : Int) ≤ (x1).toInt ∧ (x1).toInt ≤ 7) ∧ ((0 : Int) ≤ (x2).toInt ∧ (x2).toInt ≤ 1) := p_1.2
  have n_2 : ((2 : Int32)).toInt = 2 := rfl
  try have a_3 : (((2 : Int32) * x1)).toInt = 2 * (x1).toInt := i_mulc (by omega) (by omega) (by omega)
  try have a_4 : ((((2 : Int32) * x1) + x2)).toInt = (((2 : Int32) * x1)).toInt + (x2).toInt := i_add (by omega) (by omega)
  refine Sf.m (sX6_costNow h_M3 ⟨by omega, by omega⟩) (fun M7 r6 p_5 => ?_)
  have h_M7 : OKb (fT s) M7 := p_5.1
  have p_5 : (0 : Int) ≤ (r6).toInt ∧ (r6).toInt ≤ (297 : Int) := p_5.2
  have z_6 : (0 : Int) ≤ (r6).toInt ∧ (r6).toInt ≤ 297 := ⟨by omega, by omega⟩
  exact Sf.ok ⟨h_M7, z_6⟩
set_option maxHeartbeats 2000000 in
theorem sX6_makeStep {s : Nat → Int × Int} {x1 : Int32} {M : Mem} (h_M : OKb (fT s) M) (hx1 : (0 : Int) ≤ (x1).toInt ∧ (x1).toInt ≤ 15) : Sf (mX6_makeStep 0 x1 M) (pMI (fT s) (0) (297)) := by
  unfold mX6_makeStep
  refine Sf.m (sX6_costNow h_M ⟨by omega, by omega⟩) (fun M3 r2 p_1 => ?_)
  have h_M3 : OKb (fT s) M3 := p_1.1
  have p_1 : (0 : Int) ≤ (r2).toInt ∧ (r2).toInt ≤ (297 : Int) := p_1.2
  refine Sf.m (sX0_remember isP_5 h_M3) (fun M6 _ h_M6 => ?_)
  have h_M6 : OKb (fT s) M6 := h_M6
  refine Sf.m (sX6_gaugeNow h_M6 ⟨by omega, by omega⟩) (fun M9 r8 p_3 => ?_)
  have h_M9 : OKb (fT s) M9 := p_3.1
  have p_3 : (0 : Int) ≤ (r8).toInt ∧ (r8).toInt ≤ (2147483647 : Int) := p_3.2
  have g_4 := i_rng r8
  refine Sf.m (sX1_addStep isP_5 h_M9 ⟨by omega, by omega⟩ ⟨by omega, by omega⟩ ⟨by omega, by omega⟩) (fun M12 _ h_M12 => ?_)
  have h_M12 : OKb (fT s) M12 := h_M12
  have z_6 : (0 : Int) ≤ (r2).toInt ∧ (r2).toInt ≤ 297 := ⟨by omega, by omega⟩
  exact Sf.ok ⟨h_M12, z_6⟩
set_option maxHeartbeats 2000000 in
theorem sX6_fold {s : Nat → Int × Int} {x1 : Int32} {x2 : Int32} {M : Mem} (h_M : OKb (fT s) M) : Sf (mX6_fold 0 x1 x2 M) (pX (fT s) (rI (0) (297)) [0, 1, 2]) := by
  unfold mX6_fold
  refine Sf.x (sX6_requireStep h_M) (fun M3 _ p_1 => ?_) (fun M e h => ⟨h.1, mem_sub (by decide) h.2⟩)
  have h_M3 : OKb (fT s) M3 := p_1.1
  have p_1h : ((0 : Int) ≤ (x1).toInt ∧ (x1).toInt ≤ 7) ∧ ((0 : Int) ≤ (x2).toInt ∧ (x2).toInt ≤ 1) := p_1.2
  have n_2 : ((2 : Int32)).toInt = 2 := rfl
  try have a_3 : (((2 : Int32) * x1)).toInt = 2 * (x1).toInt := i_mulc (by omega) (by omega) (by omega)
  try have a_4 : ((((2 : Int32) * x1) + x2)).toInt = (((2 : Int32) * x1)).toInt + (x2).toInt := i_add (by omega) (by omega)
  refine Sf.m (sX6_reasonNow h_M3 ⟨by omega, by omega⟩) (fun M7 r6 p_5 => ?_)
  have h_M7 : OKb (fT s) M7 := p_5.1
  have p_5 : (0 : Int) ≤ (r6).toInt ∧ (r6).toInt ≤ (6 : Int) := p_5.2
  have n_6 : ((0 : Int32)).toInt = 0 := rfl
  refine Sf.i (fun c_7 => ?_) (fun c_7 => ?_)
  · have c_7 := i_eq.mp c_7
    refine Sf.m (sX6_makeStep h_M7 ⟨by omega, by omega⟩) (fun M11 r10 p_8 => ?_)
    have h_M11 : OKb (fT s) M11 := p_8.1
    have p_8 : (0 : Int) ≤ (r10).toInt ∧ (r10).toInt ≤ (297 : Int) := p_8.2
    have z_9 : (0 : Int) ≤ (r10).toInt ∧ (r10).toInt ≤ 297 := ⟨by omega, by omega⟩
    exact Sf.ok ⟨h_M11, z_9⟩
  · have c_7 := i_ne c_7
    exact Sf.ok ⟨h_M7, show (2 : Nat) ∈ [0, 1, 2] from by decide⟩
