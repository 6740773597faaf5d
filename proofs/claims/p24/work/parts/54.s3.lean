set_option maxHeartbeats 2000000 in
theorem sX3_forgetSteps_b2 {f : Bx} {ih2 : Int32 → Mem → Option (Mem × Unit)} {x1 : Int32} {M : Mem} {d2 : Nat} (h_M : OKb f M) (hx1 : (0 : Int) ≤ (x1).toInt ∧ (x1).toInt ≤ 256) (hih2 : ∀ (yx1 : Int32) (M : Mem), OKb f M → ((0 : Int) ≤ (yx1).toInt ∧ (yx1).toInt ≤ 256) → 256 - (yx1).toInt < d2 → Sf (ih2 yx1 M) (pM f)) (hmu2 : 256 - (x1).toInt ≤ d2) : Sf (mX3_forgetSteps_b2 110 ih2 x1 M) (pM f) := by
  unfold mX3_forgetSteps_b2
  have n_1 : ((256 : Int32)).toInt = 256 := rfl
  refine Sf.i (fun c_2 => ?_) (fun c_2 => ?_)
  · have c_2 := i_le.mp c_2
    exact Sf.ok h_M
  · have c_2 := i_nle c_2
    refine Sf.k (ok_in (by omega) (by omega)) ?_
    have n_3 : (((-1) : Int32)).toInt = -1 := rfl
    have g_4 := i_rng ((-1) : Int32)
    have z_5 : (-1 : Int) ≤ (((-1) : Int32)).toInt ∧ (((-1) : Int32)).toInt ≤ 2147483647 := ⟨by omega, by omega⟩
    refine Sf.b (fun M4 e_M4 => ?_)
    have h_M4 : OKb f M4 := by rw [e_M4]; exact h_M.put rfl z_5
    have n_6 : ((1 : Int32)).toInt = 1 := rfl
    try have a_7 : ((x1 + (1 : Int32))).toInt = (x1).toInt + ((1 : Int32)).toInt := i_add (by omega) (by omega)
    refine Sf.b (fun x1_16 e_x1_16 => ?_)
    have d_x1_16 := congrArg Int32.toInt e_x1_16
    exact (hih2 _ _ h_M4 ⟨by omega, by omega⟩ (by omega))
theorem sX3_forgetSteps_l2_n {f : Bx}    : ∀ (n : Nat) (x1 : Int32) (M : Mem) (h_M : OKb f M) (hx1 : (0 : Int) ≤ (x1).toInt ∧ (x1).toInt ≤ 256)    (hmu : 256 - (x1).toInt < n), Sf (mX3_forgetSteps_l2 110 n x1 M) (pM f) := by
  intro n
  induction n with
  | zero => intro x1 M h_M hx1 hmu; exfalso; omega
  | succ n IH => intro x1 M h_M hx1 hmu; exact sX3_forgetSteps_b2  h_M hx1    IH (by omega)
theorem sX3_forgetSteps_l2 {f : Bx}  {x1 : Int32} {M : Mem}  (h_M : OKb f M) (hx1 : (0 : Int) ≤ (x1).toInt ∧ (x1).toInt ≤ 256)    (hmu : 256 - (x1).toInt < 5000) : Sf (mX3_forgetSteps_l2 110 5000 x1 M) (pM f) :=
  sX3_forgetSteps_l2_n   5000 _ M h_M hx1    hmu
set_option maxHeartbeats 2000000 in
theorem sX3_forgetSteps {f : Bx} {M : Mem} (h_M : OKb f M) : Sf (mX3_forgetSteps 110 M) (pM f) := by
  unfold mX3_forgetSteps
  have n_1 : ((0 : Int32)).toInt = 0 := rfl
  exact (sX3_forgetSteps_l2 h_M ⟨by omega, by omega⟩ (by omega))
set_option maxHeartbeats 2000000 in
theorem sX3_findSteps_b63 {f : Bx} {k1 : Nat} {ih5 : Int32 → Int32 → Int32 → Mem → Option (Mem × Int32)} {x2 : Int32} {x3 : Int32} {x4 : Int32} {M : Mem} {d5 : Nat} (hk1 : isP k1) (h_M : OKb f M) (hx2 : (0 : Int) ≤ (x2).toInt ∧ (x2).toInt ≤ 255) (hx3 : (0 : Int) ≤ (x3).toInt ∧ (x3).toInt ≤ 2147483647) (hx4 : (0 : Int) ≤ (x4).toInt ∧ (x4).toInt ≤ 15) (hih5 : ∀ (yx2 : Int32) (yx3 : Int32) (yx4 : Int32) (M : Mem), OKb f M → ((0 : Int) ≤ (yx2).toInt ∧ (yx2).toInt ≤ 255) → ((0 : Int) ≤ (yx3).toInt ∧ (yx3).toInt ≤ 2147483647) → ((0 : Int) ≤ (yx4).toInt ∧ (yx4).toInt ≤ 16) → 16 - (yx4).toInt < d5 → Sf (ih5 yx2 yx3 yx4 M) (pMI f (0) (2147483647))) (hmu5 : 16 - (x4).toInt ≤ d5) : Sf (mX3_findSteps_b63 110 k1 ih5 x2 x3 x4 M) (pMI f (0) (2147483647)) := by
  unfold mX3_findSteps_b63
  have n_1 : ((1 : Int32)).toInt = 1 := rfl
  try have a_2 : ((x4 + (1 : Int32))).toInt = (x4).toInt + ((1 : Int32)).toInt := i_add (by omega) (by omega)
  refine Sf.b (fun x4_63 e_x4_63 => ?_)
  have d_x4_63 := congrArg Int32.toInt e_x4_63
  have g_3 := i_rng x3
  exact (hih5 _ _ _ _ h_M ⟨by omega, by omega⟩ ⟨by omega, by omega⟩ ⟨by omega, by omega⟩ (by omega))
set_option maxHeartbeats 2000000 in
theorem sX3_findSteps_b5 {f : Bx} {k1 : Nat} {ih5 : Int32 → Int32 → Int32 → Mem → Option (Mem × Int32)} {x2 : Int32} {x3 : Int32} {x4 : Int32} {M : Mem} {d5 : Nat} (hk1 : isP k1) (h_M : OKb f M) (hx2 : (0 : Int) ≤ (x2).toInt ∧ (x2).toInt ≤ 255) (hx3 : (0 : Int) ≤ (x3).toInt ∧ (x3).toInt ≤ 2147483647) (hx4 : (0 : Int) ≤ (x4).toInt ∧ (x4).toInt ≤ 16) (hih5 : ∀ (yx2 : Int32) (yx3 : Int32) (yx4 : Int32) (M : Mem), OKb f M → ((0 : Int) ≤ (yx2).toInt ∧ (yx2).toInt ≤ 255) → ((0 : Int) ≤ (yx3).toInt ∧ (yx3).toInt ≤ 2147483647) → ((0 : Int) ≤ (yx4).toInt ∧ (yx4).toInt ≤ 16) → 16 - (yx4).toInt < d5 → Sf (ih5 yx2 yx3 yx4 M) (pMI f (0) (2147483647))) (hmu5 : 16 - (x4).toInt ≤ d5) : Sf (mX3_findSteps_b5 110 k1 ih5 x2 x3 x4 M) (pMI f (0) (2147483647)) := by
  unfold mX3_findSteps_b5
  refine Sf.c (sX1_bendCount hk1 h_M) (fun r2 p_1 => ?_)
  obtain ⟨p_1a, p_1b⟩ := p_1
  have n_2 : ((2 : Int32)).toInt = 2 := rfl
  try have a_3 : (((2 : Int32) * r2)).toInt = 2 * (r2).toInt := i_mulc (by omega) (by omega) (by omega)
  refine Sf.i (fun c_4 => ?_) (fun c_4 => ?_)
  · have c_4 := i_le.mp c_4
    have z_5 : (0 : Int) ≤ (x3).toInt ∧ (x3).toInt ≤ 2147483647 := ⟨by omega, by omega⟩
    exact Sf.ok ⟨h_M, z_5⟩
  · have c_4 := i_nle c_4
    have n_6 : ((16 : Int32)).toInt = 16 := rfl
    refine Sf.i (fun c_7 => ?_) (fun c_7 => ?_)
    · have c_7 := i_le.mp c_7
      exfalso; omega
    · have c_7 := i_nle c_7
      refine Sf.m (sX2_reasonFor isL_112 hk1 h_M ⟨by omega, by omega⟩ ⟨by omega, by omega⟩) (fun M8 r7 p_8 => ?_)
      have h_M8 : OKb f M8 := p_8.1
      have p_8 : (0 : Int) ≤ (r7).toInt ∧ _ ≤ (6 : Int) := p_8.2
      have n_9 : ((0 : Int32)).toInt = 0 := rfl
      refine Sf.i (fun c_10 => ?_) (fun c_10 => ?_)
      · have c_10 := i_eq.mp c_10
        try have a_11 : 0 < (((1 : Int32) <<< (x4 &&& 31))).toInt ∧ (((1 : Int32) <<< (x4 &&& 31))).toInt ≤ 32768 := i_shl 15 (by decide) ⟨by omega, by omega⟩
        try have a_12 : 0 ≤ ((x3 ||| ((1 : Int32) <<< (x4 &&& 31)))).toInt ∧ ((x3 ||| ((1 : Int32) <<< (x4 &&& 31)))).toInt < 2147483648 := i_or 31 (by decide) ⟨by omega, by omega⟩ ⟨by omega, by omega⟩
        refine Sf.b (fun x3_43 e_x3_43 => ?_)
        have d_x3_43 := congrArg Int32.toInt e_x3_43
        refine Sf.c (sX2_reachToBack isL_112 h_M8) (fun r13 p_13 => ?_)
        obtain ⟨p_13a, p_13b⟩ := p_13
        try have a_14 : ((x2 * (16 : Int32))).toInt = (x2).toInt * 16 := i_mulr (by omega) (by omega) (by omega)
        try have a_15 : (((x2 * (16 : Int32)) + x4)).toInt = ((x2 * (16 : Int32))).toInt + (x4).toInt := i_add (by omega) (by omega)
        refine Sf.k (ok_in (by omega) (by omega)) ?_
        have g_16 := i_rng r13
        have z_17 : (0 : Int) ≤ (r13).toInt ∧ (r13).toInt ≤ 2147483647 := ⟨by omega, by omega⟩
        refine Sf.b (fun M17 e_M17 => ?_)
        have h_M17 : OKb f M17 := by rw [e_M17]; exact h_M8.put rfl z_17
        have g_18 := i_rng x3_43
        exact (sX3_findSteps_b63 hk1 h_M17 ⟨by omega, by omega⟩ ⟨by omega, by omega⟩ ⟨by omega, by omega⟩ hih5 (by omega))
      · have c_10 := i_ne c_10
        have g_19 := i_rng x3
        exact (sX3_findSteps_b63 hk1 h_M8 ⟨by omega, by omega⟩ ⟨by omega, by omega⟩ ⟨by omega, by omega⟩ hih5 (by omega))
theorem sX3_findSteps_l5_n {f : Bx} {k1 : Nat} (hk1 : isP k1)   : ∀ (n : Nat) (x2 : Int32) (x3 : Int32) (x4 : Int32) (M : Mem) (h_M : OKb f M) (hx2 : (0 : Int) ≤ (x2).toInt ∧ (x2).toInt ≤ 255) (hx3 : (0 : Int) ≤ (x3).toInt ∧ (x3).toInt ≤ 2147483647) (hx4 : (0 : Int) ≤ (x4).toInt ∧ (x4).toInt ≤ 16)    (hmu : 16 - (x4).toInt < n), Sf (mX3_findSteps_l5 110 k1 n x2 x3 x4 M) (pMI f (0) (2147483647)) := by
  intro n
  induction n with
  | zero => intro x2 x3 x4 M h_M hx2 hx3 hx4 hmu; exfalso; omega
  | succ n IH => intro x2 x3 x4 M h_M hx2 hx3 hx4 hmu; exact sX3_findSteps_b5 hk1 h_M hx2 hx3 hx4    IH (by omega)
theorem sX3_findSteps_l5 {f : Bx} {k1 : Nat} (hk1 : isP k1) {x2 : Int32} {x3 : Int32} {x4 : Int32} {M : Mem}  (h_M : OKb f M) (hx2 : (0 : Int) ≤ (x2).toInt ∧ (x2).toInt ≤ 255) (hx3 : (0 : Int) ≤ (x3).toInt ∧ (x3).toInt ≤ 2147483647) (hx4 : (0 : Int) ≤ (x4).toInt ∧ (x4).toInt ≤ 16)    (hmu : 16 - (x4).toInt < 5000) : Sf (mX3_findSteps_l5 110 k1 5000 x2 x3 x4 M) (pMI f (0) (2147483647)) :=
  sX3_findSteps_l5_n hk1  5000 _ _ _ M h_M hx2 hx3 hx4    hmu
set_option maxHeartbeats 2000000 in
theorem sX3_findSteps {f : Bx} {k1 : Nat} {x2 : Int32} {M : Mem} (hk1 : isP k1) (h_M : OKb f M) (hx2 : (0 : Int) ≤ (x2).toInt ∧ (x2).toInt ≤ 255) : Sf (mX3_findSteps 110 k1 x2 M) (pMI f (0) (2147483647)) := by
  unfold mX3_findSteps
  have n_1 : ((0 : Int32)).toInt = 0 := rfl
  have g_2 := i_rng (0 : Int32)
  exact (sX3_findSteps_l5 hk1 h_M ⟨by omega, by omega⟩ ⟨by omega, by omega⟩ ⟨by omega, by omega⟩ (by omega))
set_option maxHeartbeats 2000000 in
theorem sX3_isOpen {f : Bx} {x1 : Int32} {x2 : Int32} {M : Mem} (h_M : OKb f M) (hx1 : (0 : Int) ≤ (x1).toInt ∧ (x1).toInt ≤ 255) (hx2 : (0 : Int) ≤ (x2).toInt ∧ (x2).toInt ≤ 15) : Sf (mX3_isOpen 110 x1 x2 M) (pI (0) (1)) := by
  unfold mX3_isOpen
  refine Sf.k (ok_in (by omega) (by omega)) ?_
  have b_1 : (-1 : Int) ≤ (rd M (110 + 17) ((x1).toNatClampNeg)).toInt ∧ (rd M (110 + 17) ((x1).toNatClampNeg)).toInt ≤ 2147483647 := h_M.at rfl
  have n_2 : ((1 : Int32)).toInt = 1 := rfl
  try have a_3 := i_andr (a := ((rd M (110 + 17) ((x1).toNatClampNeg)) >>> (x2 &&& 31))) (b := (1 : Int32)) (by omega)
  have n_4 : ((0 : Int32)).toInt = 0 := rfl
  refine Sf.i (fun c_5 => ?_) (fun c_5 => ?_)
  · have c_5 := i_eq.mp c_5
    have n_6 : ((0 : Int32)).toInt = 0 := rfl
    have z_7 : (0 : Int) ≤ ((0 : Int32)).toInt ∧ ((0 : Int32)).toInt ≤ 1 := ⟨by omega, by omega⟩
    exact Sf.ok z_7
  · have c_5 := i_ne c_5
    have z_8 : (0 : Int) ≤ ((1 : Int32)).toInt ∧ ((1 : Int32)).toInt ≤ 1 := ⟨by omega, by omega⟩
    exact Sf.ok z_8
set_option maxHeartbeats 2000000 in
theorem sX3_setBehind {f : Bx} {x0 : Int32} {x1 : Int32} {M : Mem} (h_M : OKb f M) (hx0 : (0 : Int) ≤ (x0).toInt ∧ (x0).toInt ≤ 255) (hx1 : (0 : Int) ≤ (x1).toInt ∧ (x1).toInt ≤ 15) : Sf (mX3_setBehind x0 x1 M) (pI (0) (255)) := by
  unfold mX3_setBehind
  try have a_1 := i_shr1 (a := x1)
  try have a_2 : 0 < (((1 : Int32) <<< ((x1 >>> ((1 : Int32) &&& 31)) &&& 31))).toInt ∧ (((1 : Int32) <<< ((x1 >>> ((1 : Int32) &&& 31)) &&& 31))).toInt ≤ 128 := i_shl 7 (by decide) ⟨by omega, by omega⟩
  try have a_3 : 0 ≤ ((x0 ||| ((1 : Int32) <<< ((x1 >>> ((1 : Int32) &&& 31)) &&& 31)))).toInt ∧ ((x0 ||| ((1 : Int32) <<< ((x1 >>> ((1 : Int32) &&& 31)) &&& 31)))).toInt < 256 := i_or 8 (by decide) ⟨by omega, by omega⟩ ⟨by omega, by omega⟩
  have z_4 : (0 : Int) ≤ ((x0 ||| ((1 : Int32) <<< ((x1 >>> ((1 : Int32) &&& 31)) &&& 31)))).toInt ∧ ((x0 ||| ((1 : Int32) <<< ((x1 >>> ((1 : Int32) &&& 31)) &&& 31)))).toInt ≤ 255 := ⟨by omega, by omega⟩
  exact Sf.ok z_4
set_option maxHeartbeats 2000000 in
theorem sX3_reachSets_b142 {f : Bx} {k1 : Nat} {ih67 : Int32 → Mem → Option (Mem × Unit)} {ih107 : Int32 → Int32 → Mem → Option (Mem × Unit)} {x2 : Int32} {x3 : Int32} {M : Mem} {d67 : Nat} {d107 : Nat} (hk1 : isP k1) (h_M : OKb f M) (hx2 : (0 : Int) ≤ (x2).toInt ∧ (x2).toInt ≤ 255) (hx3 : (0 : Int) ≤ (x3).toInt ∧ (x3).toInt ≤ 15) (hih67 : ∀ (yx2 : Int32) (M : Mem), OKb f M → ((0 : Int) ≤ (yx2).toInt ∧ (yx2).toInt ≤ 256) → 256 - (yx2).toInt < d67 → Sf (ih67 yx2 M) (pM f)) (hmu67 : 256 - (x2).toInt ≤ d67) (hih107 : ∀ (yx2 : Int32) (yx3 : Int32) (M : Mem), OKb f M → ((0 : Int) ≤ (yx2).toInt ∧ (yx2).toInt ≤ 255) → ((0 : Int) ≤ (yx3).toInt ∧ (yx3).toInt ≤ 16) → (256 - (yx2).toInt ≤ d67) → 16 - (yx3).toInt < d107 → Sf (ih107 yx2 yx3 M) (pM f)) (hmu107 : 16 - (x3).toInt ≤ d107) : Sf (mX3_reachSets_b142 110 k1 ih67 ih107 x2 x3 M) (pM f) := by
  unfold mX3_reachSets_b142
  have n_1 : ((1 : Int32)).toInt = 1 := rfl
  try have a_2 : ((x3 + (1 : Int32))).toInt = (x3).toInt + ((1 : Int32)).toInt := i_add (by omega) (by omega)
  refine Sf.b (fun x3_142 e_x3_142 => ?_)
  have d_x3_142 := congrArg Int32.toInt e_x3_142
  exact (hih107 _ _ _ h_M ⟨by omega, by omega⟩ ⟨by omega, by omega⟩ (by omega) (by omega))
set_option maxHeartbeats 2000000 in
theorem sX3_reachSets_b107 {f : Bx} {k1 : Nat} {ih67 : Int32 → Mem → Option (Mem × Unit)} {ih107 : Int32 → Int32 → Mem → Option (Mem × Unit)} {x2 : Int32} {x3 : Int32} {M : Mem} {d67 : Nat} {d107 : Nat} (hk1 : isP k1) (h_M : OKb f M) (hx2 : (0 : Int) ≤ (x2).toInt ∧ (x2).toInt ≤ 255) (hx3 : (0 : Int) ≤ (x3).toInt ∧ (x3).toInt ≤ 16) (hih67 : ∀ (yx2 : Int32) (M : Mem), OKb f M → ((0 : Int) ≤ (yx2).toInt ∧ (yx2).toInt ≤ 256) → 256 - (yx2).toInt < d67 → Sf (ih67 yx2 M) (pM f)) (hmu67 : 256 - (x2).toInt ≤ d67) (hih107 : ∀ (yx2 : Int32) (yx3 : Int32) (M : Mem), OKb f M → ((0 : Int) ≤ (yx2).toInt ∧ (yx2).toInt ≤ 255) → ((0 : Int) ≤ (yx3).toInt ∧ (yx3).toInt ≤ 16) → (256 - (yx2).toInt ≤ d67) → 16 - (yx3).toInt < d107 → Sf (ih107 yx2 yx3 M) (pM f)) (hmu107 : 16 - (x3).toInt ≤ d107) : Sf (mX3_reachSets_b107 110 k1 ih67 ih107 x2 x3 M) (pM f) := by
  unfold mX3_reachSets_b107
  have n_1 : ((16 : Int32)).toInt = 16 := rfl
  refine Sf.i (fun c_2 => ?_) (fun c_2 => ?_)
  · have c_2 := i_le.mp c_2
    have n_3 : ((1 : Int32)).toInt = 1 := rfl
    try have a_4 : ((x2 + (1 : Int32))).toInt = (x2).toInt + ((1 : Int32)).toInt := i_add (by omega) (by omega)
    refine Sf.b (fun x2_148 e_x2_148 => ?_)
    have d_x2_148 := congrArg Int32.toInt e_x2_148
    exact (hih67 _ _ h_M ⟨by omega, by omega⟩ (by omega))
  · have c_2 := i_nle c_2
    refine Sf.k (ok_in (by omega) (by omega)) ?_
    have b_5 : (0 : Int) ≤ (rd M (110 + 18) ((x2).toNatClampNeg)).toInt ∧ (rd M (110 + 18) ((x2).toNatClampNeg)).toInt ≤ 1 := h_M.at rfl
    have n_6 : ((0 : Int32)).toInt = 0 := rfl
    refine Sf.i (fun c_7 => ?_) (fun c_7 => ?_)
    · have c_7 := i_eq.mp c_7
      exact (sX3_reachSets_b142 hk1 h_M ⟨by omega, by omega⟩ ⟨by omega, by omega⟩ hih67 (by omega) hih107 (by omega))
    · have c_7 := i_ne c_7
      refine Sf.c (sX3_isOpen h_M ⟨by omega, by omega⟩ ⟨by omega, by omega⟩) (fun r21 p_8 => ?_)
      obtain ⟨p_8a, p_8b⟩ := p_8
      refine Sf.i (fun c_9 => ?_) (fun c_9 => ?_)
      · have c_9 := i_eq.mp c_9
        exact (sX3_reachSets_b142 hk1 h_M ⟨by omega, by omega⟩ ⟨by omega, by omega⟩ hih67 (by omega) hih107 (by omega))
      · have c_9 := i_ne c_9
        refine Sf.c (sX3_setBehind h_M ⟨by omega, by omega⟩ ⟨by omega, by omega⟩) (fun r25 p_10 => ?_)
        obtain ⟨p_10a, p_10b⟩ := p_10
        refine Sf.k (ok_in (by omega) (by omega)) ?_
        have v_11 := nar_boolean (x := (1 : Int32))
        have z_12 : (0 : Int) ≤ ((vp_nar .boolean (1 : Int32))).toInt ∧ ((vp_nar .boolean (1 : Int32))).toInt ≤ 1 := ⟨by omega, by omega⟩
        refine Sf.b (fun M29 e_M29 => ?_)
        have h_M29 : OKb f M29 := by rw [e_M29]; exact h_M.put rfl z_12
        exact (sX3_reachSets_b142 hk1 h_M29 ⟨by omega, by omega⟩ ⟨by omega, by omega⟩ hih67 (by omega) hih107 (by omega))
theorem sX3_reachSets_l107_n {f : Bx} {k1 : Nat} (hk1 : isP k1) {ih67 : Int32 → Mem → Option (Mem × Unit)} {d67 : Nat} (hih67 : ∀ (yx2 : Int32) (M : Mem), OKb f M → ((0 : Int) ≤ (yx2).toInt ∧ (yx2).toInt ≤ 256) → 256 - (yx2).toInt < d67 → Sf (ih67 yx2 M) (pM f)) : ∀ (n : Nat) (x2 : Int32) (x3 : Int32) (M : Mem) (h_M : OKb f M) (hx2 : (0 : Int) ≤ (x2).toInt ∧ (x2).toInt ≤ 255) (hx3 : (0 : Int) ≤ (x3).toInt ∧ (x3).toInt ≤ 16)   (hmu67 : 256 - (x2).toInt ≤ d67) (hmu : 16 - (x3).toInt < n), Sf (mX3_reachSets_l107 110 k1 ih67 n x2 x3 M) (pM f) := by
  intro n
  induction n with
  | zero => intro x2 x3 M h_M hx2 hx3 hmu67 hmu; exfalso; omega
  | succ n IH => intro x2 x3 M h_M hx2 hx3 hmu67 hmu; exact sX3_reachSets_b107 hk1 h_M hx2 hx3   hih67 hmu67 IH (by omega)
theorem sX3_reachSets_l107 {f : Bx} {k1 : Nat} (hk1 : isP k1) {x2 : Int32} {x3 : Int32} {M : Mem} {ih67 : Int32 → Mem → Option (Mem × Unit)} {d67 : Nat} (h_M : OKb f M) (hx2 : (0 : Int) ≤ (x2).toInt ∧ (x2).toInt ≤ 255) (hx3 : (0 : Int) ≤ (x3).toInt ∧ (x3).toInt ≤ 16)   (hih67 : ∀ (yx2 : Int32) (M : Mem), OKb f M → ((0 : Int) ≤ (yx2).toInt ∧ (yx2).toInt ≤ 256) → 256 - (yx2).toInt < d67 → Sf (ih67 yx2 M) (pM f)) (hmu67 : 256 - (x2).toInt ≤ d67) (hmu : 16 - (x3).toInt < 5000) : Sf (mX3_reachSets_l107 110 k1 ih67 5000 x2 x3 M) (pM f) :=
  sX3_reachSets_l107_n hk1 hih67 5000 _ _ M h_M hx2 hx3   hmu67 hmu
set_option maxHeartbeats 2000000 in
theorem sX3_reachSets_b105 {f : Bx} {k1 : Nat} {ih67 : Int32 → Mem → Option (Mem × Unit)} {x2 : Int32} {M : Mem} {d67 : Nat} (hk1 : isP k1) (h_M : OKb f M) (hx2 : (0 : Int) ≤ (x2).toInt ∧ (x2).toInt ≤ 255) (hih67 : ∀ (yx2 : Int32) (M : Mem), OKb f M → ((0 : Int) ≤ (yx2).toInt ∧ (yx2).toInt ≤ 256) → 256 - (yx2).toInt < d67 → Sf (ih67 yx2 M) (pM f)) (hmu67 : 256 - (x2).toInt ≤ d67) : Sf (mX3_reachSets_b105 110 k1 ih67 x2 M) (pM f) := by
  unfold mX3_reachSets_b105
  have n_1 : ((0 : Int32)).toInt = 0 := rfl
  exact (sX3_reachSets_l107 hk1 h_M ⟨by omega, by omega⟩ ⟨by omega, by omega⟩ hih67 (by omega) (by omega))
set_option maxHeartbeats 2000000 in
theorem sX3_reachSets_b67 {f : Bx} {k1 : Nat} {ih67 : Int32 → Mem → Option (Mem × Unit)} {x2 : Int32} {M : Mem} {d67 : Nat} (hk1 : isP k1) (h_M : OKb f M) (hx2 : (0 : Int) ≤ (x2).toInt ∧ (x2).toInt ≤ 256) (hih67 : ∀ (yx2 : Int32) (M : Mem), OKb f M → ((0 : Int) ≤ (yx2).toInt ∧ (yx2).toInt ≤ 256) → 256 - (yx2).toInt < d67 → Sf (ih67 yx2 M) (pM f)) (hmu67 : 256 - (x2).toInt ≤ d67) : Sf (mX3_reachSets_b67 110 k1 ih67 x2 M) (pM f) := by
  unfold mX3_reachSets_b67
  have n_1 : ((256 : Int32)).toInt = 256 := rfl
  refine Sf.i (fun c_2 => ?_) (fun c_2 => ?_)
  · have c_2 := i_le.mp c_2
    exact Sf.ok h_M
  · have c_2 := i_nle c_2
    refine Sf.k (ok_in (by omega) (by omega)) ?_
    have b_3 : (0 : Int) ≤ (rd M (110 + 18) ((x2).toNatClampNeg)).toInt ∧ (rd M (110 + 18) ((x2).toNatClampNeg)).toInt ≤ 1 := h_M.at rfl
    have n_4 : ((0 : Int32)).toInt = 0 := rfl
    refine Sf.i (fun c_5 => ?_) (fun c_5 => ?_)
    · have c_5 := i_eq.mp c_5
      exact (sX3_reachSets_b105 hk1 h_M ⟨by omega, by omega⟩ hih67 (by omega))
    · have c_5 := i_ne c_5
      refine Sf.k (ok_in (by omega) (by omega)) ?_
      have b_6 : (-1 : Int) ≤ (rd M (110 + 17) ((x2).toNatClampNeg)).toInt ∧ (rd M (110 + 17) ((x2).toNatClampNeg)).toInt ≤ 2147483647 := h_M.at rfl
      have n_7 : (((-1) : Int32)).toInt = -1 := rfl
      refine Sf.i (fun c_8 => ?_) (fun c_8 => ?_)
      · have c_8 := i_eq.mp c_8
        refine Sf.m (sX3_findSteps hk1 h_M ⟨by omega, by omega⟩) (fun M34 r33 p_9 => ?_)
        have h_M34 : OKb f M34 := p_9.1
        have p_9 : (0 : Int) ≤ (r33).toInt ∧ _ ≤ (2147483647 : Int) := p_9.2
        refine Sf.k (ok_in (by omega) (by omega)) ?_
        have g_10 := i_rng r33
        have z_11 : (-1 : Int) ≤ (r33).toInt ∧ (r33).toInt ≤ 2147483647 := ⟨by omega, by omega⟩
        refine Sf.b (fun M37 e_M37 => ?_)
        have h_M37 : OKb f M37 := by rw [e_M37]; exact h_M34.put rfl z_11
        exact (sX3_reachSets_b105 hk1 h_M37 ⟨by omega, by omega⟩ hih67 (by omega))
      · have c_8 := i_ne c_8
        exact (sX3_reachSets_b105 hk1 h_M ⟨by omega, by omega⟩ hih67 (by omega))
theorem sX3_reachSets_l67_n {f : Bx} {k1 : Nat} (hk1 : isP k1)   : ∀ (n : Nat) (x2 : Int32) (M : Mem) (h_M : OKb f M) (hx2 : (0 : Int) ≤ (x2).toInt ∧ (x2).toInt ≤ 256)    (hmu : 256 - (x2).toInt < n), Sf (mX3_reachSets_l67 110 k1 n x2 M) (pM f) := by
  intro n
  induction n with
  | zero => intro x2 M h_M hx2 hmu; exfalso; omega
  | succ n IH => intro x2 M h_M hx2 hmu; exact sX3_reachSets_b67 hk1 h_M hx2    IH (by omega)
theorem sX3_reachSets_l67 {f : Bx} {k1 : Nat} (hk1 : isP k1) {x2 : Int32} {M : Mem}  (h_M : OKb f M) (hx2 : (0 : Int) ≤ (x2).toInt ∧ (x2).toInt ≤ 256)    (hmu : 256 - (x2).toInt < 5000) : Sf (mX3_reachSets_l67 110 k1 5000 x2 M) (pM f) :=
  sX3_reachSets_l67_n hk1  5000 _ M h_M hx2    hmu
set_option maxHeartbeats 2000000 in
theorem sX3_reachSets_b55 {f : Bx} {k1 : Nat} {ih30 : Int32 → Mem → Option (Mem × Unit)} {x2 : Int32} {y1 : Int32} {y2 : Int32} {M : Mem} {d30 : Nat} (hk1 : isP k1) (h_M : OKb f M) (hx2 : (0 : Int) ≤ (x2).toInt ∧ (x2).toInt ≤ 255) (hy1 : (0 : Int) ≤ (y1).toInt ∧ (y1).toInt ≤ 255) (hy2 : (0 : Int) ≤ (y2).toInt ∧ (y2).toInt ≤ 1) (hih30 : ∀ (yx2 : Int32) (M : Mem), OKb f M → ((0 : Int) ≤ (yx2).toInt ∧ (yx2).toInt ≤ 256) → 256 - (yx2).toInt < d30 → Sf (ih30 yx2 M) (pM f)) (hmu30 : 256 - (x2).toInt ≤ d30) : Sf (mX3_reachSets_b55 110 k1 ih30 x2 y1 y2 M) (pM f) := by
  unfold mX3_reachSets_b55
  refine Sf.k (ok_in (by omega) (by omega)) ?_
  have v_1 := nar_boolean (x := y2)
  have z_2 : (0 : Int) ≤ ((vp_nar .boolean y2)).toInt ∧ ((vp_nar .boolean y2)).toInt ≤ 1 := ⟨by omega, by omega⟩
  refine Sf.b (fun M41 e_M41 => ?_)
  have h_M41 : OKb f M41 := by rw [e_M41]; exact h_M.put rfl z_2
  have n_3 : ((1 : Int32)).toInt = 1 := rfl
  try have a_4 : ((x2 + (1 : Int32))).toInt = (x2).toInt + ((1 : Int32)).toInt := i_add (by omega) (by omega)
  refine Sf.b (fun x2_56 e_x2_56 => ?_)
  have d_x2_56 := congrArg Int32.toInt e_x2_56
  exact (hih30 _ _ h_M41 ⟨by omega, by omega⟩ (by omega))
set_option maxHeartbeats 2000000 in
theorem sX3_reachSets_b30 {f : Bx} {k1 : Nat} {ih30 : Int32 → Mem → Option (Mem × Unit)} {x2 : Int32} {M : Mem} {d30 : Nat} (hk1 : isP k1) (h_M : OKb f M) (hx2 : (0 : Int) ≤ (x2).toInt ∧ (x2).toInt ≤ 256) (hih30 : ∀ (yx2 : Int32) (M : Mem), OKb f M → ((0 : Int) ≤ (yx2).toInt ∧ (yx2).toInt ≤ 256) → 256 - (yx2).toInt < d30 → Sf (ih30 yx2 M) (pM f)) (hmu30 : 256 - (x2).toInt ≤ d30) : Sf (mX3_reachSets_b30 110 k1 ih30 x2 M) (pM f) := by
  unfold mX3_reachSets_b30
  have n_1 : ((256 : Int32)).toInt = 256 := rfl
  refine Sf.i (fun c_2 => ?_) (fun c_2 => ?_)
  · have c_2 := i_le.mp c_2
    have b_3 : (0 : Int) ≤ (rd M k1 13).toInt ∧ (rd M k1 13).toInt ≤ 255 := h_M.at (bx_P0 hk1)
    refine Sf.b (fun x2_66 e_x2_66 => ?_)
    have d_x2_66 := congrArg Int32.toInt e_x2_66
    exact (sX3_reachSets_l67 hk1 h_M ⟨by omega, by omega⟩ (by omega))
  · have c_2 := i_nle c_2
    have b_4 : (0 : Int) ≤ (rd M k1 13).toInt ∧ (rd M k1 13).toInt ≤ 255 := h_M.at (bx_P0 hk1)
    refine Sf.i (fun c_5 => ?_) (fun c_5 => ?_)
    · have c_5 := i_eq.mp c_5
      have n_6 : ((1 : Int32)).toInt = 1 := rfl
      exact (sX3_reachSets_b55 hk1 h_M ⟨by omega, by omega⟩ ⟨by omega, by omega⟩ ⟨by omega, by omega⟩ hih30 (by omega))
    · have c_5 := i_ne c_5
      have n_7 : ((0 : Int32)).toInt = 0 := rfl
      exact (sX3_reachSets_b55 hk1 h_M ⟨by omega, by omega⟩ ⟨by omega, by omega⟩ ⟨by omega, by omega⟩ hih30 (by omega))
theorem sX3_reachSets_l30_n {f : Bx} {k1 : Nat} (hk1 : isP k1)   : ∀ (n : Nat) (x2 : Int32) (M : Mem) (h_M : OKb f M) (hx2 : (0 : Int) ≤ (x2).toInt ∧ (x2).toInt ≤ 256)    (hmu : 256 - (x2).toInt < n), Sf (mX3_reachSets_l30 110 k1 n x2 M) (pM f) := by
  intro n
  induction n with
  | zero => intro x2 M h_M hx2 hmu; exfalso; omega
  | succ n IH => intro x2 M h_M hx2 hmu; exact sX3_reachSets_b30 hk1 h_M hx2    IH (by omega)
theorem sX3_reachSets_l30 {f : Bx} {k1 : Nat} (hk1 : isP k1) {x2 : Int32} {M : Mem}  (h_M : OKb f M) (hx2 : (0 : Int) ≤ (x2).toInt ∧ (x2).toInt ≤ 256)    (hmu : 256 - (x2).toInt < 5000) : Sf (mX3_reachSets_l30 110 k1 5000 x2 M) (pM f) :=
  sX3_reachSets_l30_n hk1  5000 _ M h_M hx2    hmu
set_option maxHeartbeats 2000000 in
theorem sX3_reachSets_b15 {f : Bx} {k1 : Nat} {M : Mem} (hk1 : isP k1) (h_M : OKb f M) : Sf (mX3_reachSets_b15 110 k1 M) (pM f) := by
  unfold mX3_reachSets_b15
  refine Sf.m (sX1_copyFrom isP_119 hk1 h_M) (fun M7 _ p_1 => ?_)
  have h_M7 : OKb f M7 := p_1.1
  have gq_M7 : ∀ j, rd M7 21 j = rd M 21 j := p_1.2
  have n_2 : ((0 : Int32)).toInt = 0 := rfl
  have z_3 : (0 : Int) ≤ ((0 : Int32)).toInt ∧ ((0 : Int32)).toInt ≤ 1 := ⟨by omega, by omega⟩
  refine Sf.b (fun M8 e_M8 => ?_)
  have h_M8 : OKb f M8 := by rw [e_M8]; exact h_M7.put rfl z_3
  exact (sX3_reachSets_l30 hk1 h_M8 ⟨by omega, by omega⟩ (by omega))
set_option maxHeartbeats 2000000 in
theorem sX3_reachSets {f : Bx} {k1 : Nat} {M : Mem} (hk1 : isP k1) (h_M : OKb f M) : Sf (mX3_reachSets 110 k1 M) (pM f) := by
  unfold mX3_reachSets
  refine Sf.c (sX1_bendsLike hk1 isP_119 h_M) (fun r2 p_1 => ?_)
  obtain ⟨p_1a, p_1b⟩ := p_1
  have n_2 : ((0 : Int32)).toInt = 0 := rfl
  refine Sf.i (fun c_3 => ?_) (fun c_3 => ?_)
  · have c_3 := i_eq.mp c_3
    refine Sf.m (sX3_forgetSteps h_M) (fun M45 _ h_M45 => ?_)
    have h_M45 : OKb f M45 := h_M45
    exact (sX3_reachSets_b15 hk1 h_M45)
  · have c_3 := i_ne c_3
    exact (sX3_reachSets_b15 hk1 h_M)
set_option maxHeartbeats 2000000 in
theorem sX3_countOrders_b78 {f : Bx} {k1 : Nat} {ih9 : Int32 → Int32 → Mem → Option (Mem × Unit)} {ih32 : Int32 → Int32 → Int32 → Mem → Option (Mem × Unit)} {x2 : Int32} {x3 : Int32} {x4 : Int32} {M : Mem} {d9 : Nat} {d32 : Nat} (hk1 : isP k1) (h_M : OKb f M) (hx2 : (0 : Int) ≤ (x2).toInt ∧ (x2).toInt ≤ 255) (hx3 : (0 : Int) ≤ (x3).toInt ∧ (x3).toInt ≤ 255) (hx4 : (0 : Int) ≤ (x4).toInt ∧ (x4).toInt ≤ 15) (hih9 : ∀ (yx2 : Int32) (yx3 : Int32) (M : Mem), OKb f M → ((0 : Int) ≤ (yx2).toInt ∧ (yx2).toInt ≤ 255) → ((-1 : Int) ≤ (yx3).toInt ∧ (yx3).toInt ≤ 255) → (yx3).toInt - (-1) < d9 → Sf (ih9 yx2 yx3 M) (pM f)) (hmu9 : (x3).toInt - (-1) ≤ d9) (hih32 : ∀ (yx2 : Int32) (yx3 : Int32) (yx4 : Int32) (M : Mem), OKb f M → ((0 : Int) ≤ (yx2).toInt ∧ (yx2).toInt ≤ 255) → ((0 : Int) ≤ (yx3).toInt ∧ (yx3).toInt ≤ 255) → ((0 : Int) ≤ (yx4).toInt ∧ (yx4).toInt ≤ 16) → ((yx3).toInt - (-1) ≤ d9) → 16 - (yx4).toInt < d32 → Sf (ih32 yx2 yx3 yx4 M) (pM f)) (hmu32 : 16 - (x4).toInt ≤ d32) : Sf (mX3_countOrders_b78 110 k1 ih9 ih32 x2 x3 x4 M) (pM f) := by
  unfold mX3_countOrders_b78
  have n_1 : ((1 : Int32)).toInt = 1 := rfl
  try have a_2 : ((x4 + (1 : Int32))).toInt = (x4).toInt + ((1 : Int32)).toInt := i_add (by omega) (by omega)
  refine Sf.b (fun x4_78 e_x4_78 => ?_)
  have d_x4_78 := congrArg Int32.toInt e_x4_78
  exact (hih32 _ _ _ _ h_M ⟨by omega, by omega⟩ ⟨by omega, by omega⟩ ⟨by omega, by omega⟩ (by omega) (by omega))
set_option maxHeartbeats 2000000 in
theorem sX3_countOrders_b32 {f : Bx} {k1 : Nat} {ih9 : Int32 → Int32 → Mem → Option (Mem × Unit)} {ih32 : Int32 → Int32 → Int32 → Mem → Option (Mem × Unit)} {x2 : Int32} {x3 : Int32} {x4 : Int32} {M : Mem} {d9 : Nat} {d32 : Nat} (hk1 : isP k1) (h_M : OKb f M) (hx2 : (0 : Int) ≤ (x2).toInt ∧ (x2).toInt ≤ 255) (hx3 : (0 : Int) ≤ (x3).toInt ∧ (x3).toInt ≤ 255) (hx4 : (0 : Int) ≤ (x4).toInt ∧ (x4).toInt ≤ 16) (hih9 : ∀ (yx2 : Int32) (yx3 : Int32) (M : Mem), OKb f M → ((0 : Int) ≤ (yx2).toInt ∧ (yx2).toInt ≤ 255) → ((-1 : Int) ≤ (yx3).toInt ∧ (yx3).toInt ≤ 255) → (yx3).toInt - (-1) < d9 → Sf (ih9 yx2 yx3 M) (pM f)) (hmu9 : (x3).toInt - (-1) ≤ d9) (hih32 : ∀ (yx2 : Int32) (yx3 : Int32) (yx4 : Int32) (M : Mem), OKb f M → ((0 : Int) ≤ (yx2).toInt ∧ (yx2).toInt ≤ 255) → ((0 : Int) ≤ (yx3).toInt ∧ (yx3).toInt ≤ 255) → ((0 : Int) ≤ (yx4).toInt ∧ (yx4).toInt ≤ 16) → ((yx3).toInt - (-1) ≤ d9) → 16 - (yx4).toInt < d32 → Sf (ih32 yx2 yx3 yx4 M) (pM f)) (hmu32 : 16 - (x4).toInt ≤ d32) : Sf (mX3_countOrders_b32 110 k1 ih9 ih32 x2 x3 x4 M) (pM f) := by
  unfold mX3_countOrders_b32
  have n_1 : ((16 : Int32)).toInt = 16 := rfl
  refine Sf.i (fun c_2 => ?_) (fun c_2 => ?_)
  · have c_2 := i_le.mp c_2
    have n_3 : (((-1) : Int32)).toInt = -1 := rfl
    try have a_4 : ((x3 + ((-1) : Int32))).toInt = (x3).toInt + (((-1) : Int32)).toInt := i_add (by omega) (by omega)
    refine Sf.b (fun x3_84 e_x3_84 => ?_)
    have d_x3_84 := congrArg Int32.toInt e_x3_84
    exact (hih9 _ _ _ h_M ⟨by omega, by omega⟩ ⟨by omega, by omega⟩ (by omega))
  · have c_2 := i_nle c_2
    refine Sf.k (ok_in (by omega) (by omega)) ?_
    have b_5 : (0 : Int) ≤ (rd M (110 + 18) ((x3).toNatClampNeg)).toInt ∧ (rd M (110 + 18) ((x3).toNatClampNeg)).toInt ≤ 1 := h_M.at rfl
    have n_6 : ((0 : Int32)).toInt = 0 := rfl
    refine Sf.i (fun c_7 => ?_) (fun c_7 => ?_)
    · have c_7 := i_eq.mp c_7
      exact (sX3_countOrders_b78 hk1 h_M ⟨by omega, by omega⟩ ⟨by omega, by omega⟩ ⟨by omega, by omega⟩ hih9 (by omega) hih32 (by omega))
    · have c_7 := i_ne c_7
      refine Sf.c (sX3_isOpen h_M ⟨by omega, by omega⟩ ⟨by omega, by omega⟩) (fun r15 p_8 => ?_)
      obtain ⟨p_8a, p_8b⟩ := p_8
      refine Sf.i (fun c_9 => ?_) (fun c_9 => ?_)
      · have c_9 := i_eq.mp c_9
        exact (sX3_countOrders_b78 hk1 h_M ⟨by omega, by omega⟩ ⟨by omega, by omega⟩ ⟨by omega, by omega⟩ hih9 (by omega) hih32 (by omega))
      · have c_9 := i_ne c_9
        refine Sf.k (ok_in (by omega) (by omega)) ?_
        refine Sf.c (sX3_setBehind h_M ⟨by omega, by omega⟩ ⟨by omega, by omega⟩) (fun r20 p_10 => ?_)
        obtain ⟨p_10a, p_10b⟩ := p_10
        refine Sf.k (ok_in (by omega) (by omega)) ?_
        refine Sf.k (ok_in (by omega) (by omega)) ?_
        refine Sf.b (fun M25 e_M25 => ?_)
        have h_M25 : OKb f M25 := by rw [e_M25]; exact h_M.pl
        exact (sX3_countOrders_b78 hk1 h_M25 ⟨by omega, by omega⟩ ⟨by omega, by omega⟩ ⟨by omega, by omega⟩ hih9 (by omega) hih32 (by omega))
theorem sX3_countOrders_l32_n {f : Bx} {k1 : Nat} (hk1 : isP k1) {ih9 : Int32 → Int32 → Mem → Option (Mem × Unit)} {d9 : Nat} (hih9 : ∀ (yx2 : Int32) (yx3 : Int32) (M : Mem), OKb f M → ((0 : Int) ≤ (yx2).toInt ∧ (yx2).toInt ≤ 255) → ((-1 : Int) ≤ (yx3).toInt ∧ (yx3).toInt ≤ 255) → (yx3).toInt - (-1) < d9 → Sf (ih9 yx2 yx3 M) (pM f)) : ∀ (n : Nat) (x2 : Int32) (x3 : Int32) (x4 : Int32) (M : Mem) (h_M : OKb f M) (hx2 : (0 : Int) ≤ (x2).toInt ∧ (x2).toInt ≤ 255) (hx3 : (0 : Int) ≤ (x3).toInt ∧ (x3).toInt ≤ 255) (hx4 : (0 : Int) ≤ (x4).toInt ∧ (x4).toInt ≤ 16)   (hmu9 : (x3).toInt - (-1) ≤ d9) (hmu : 16 - (x4).toInt < n), Sf (mX3_countOrders_l32 110 k1 ih9 n x2 x3 x4 M) (pM f) := by
  intro n
  induction n with
  | zero => intro x2 x3 x4 M h_M hx2 hx3 hx4 hmu9 hmu; exfalso; omega
  | succ n IH => intro x2 x3 x4 M h_M hx2 hx3 hx4 hmu9 hmu; exact sX3_countOrders_b32 hk1 h_M hx2 hx3 hx4   hih9 hmu9 IH (by omega)
theorem sX3_countOrders_l32 {f : Bx} {k1 : Nat} (hk1 : isP k1) {x2 : Int32} {x3 : Int32} {x4 : Int32} {M : Mem} {ih9 : Int32 → Int32 → Mem → Option (Mem × Unit)} {d9 : Nat} (h_M : OKb f M) (hx2 : (0 : Int) ≤ (x2).toInt ∧ (x2).toInt ≤ 255) (hx3 : (0 : Int) ≤ (x3).toInt ∧ (x3).toInt ≤ 255) (hx4 : (0 : Int) ≤ (x4).toInt ∧ (x4).toInt ≤ 16)   (hih9 : ∀ (yx2 : Int32) (yx3 : Int32) (M : Mem), OKb f M → ((0 : Int) ≤ (yx2).toInt ∧ (yx2).toInt ≤ 255) → ((-1 : Int) ≤ (yx3).toInt ∧ (yx3).toInt ≤ 255) → (yx3).toInt - (-1) < d9 → Sf (ih9 yx2 yx3 M) (pM f)) (hmu9 : (x3).toInt - (-1) ≤ d9) (hmu : 16 - (x4).toInt < 5000) : Sf (mX3_countOrders_l32 110 k1 ih9 5000 x2 x3 x4 M) (pM f) :=
  sX3_countOrders_l32_n hk1 hih9 5000 _ _ _ M h_M hx2 hx3 hx4   hmu9 hmu
set_option maxHeartbeats 2000000 in
theorem sX3_countOrders_b28 {f : Bx} {k1 : Nat} {ih9 : Int32 → Int32 → Mem → Option (Mem × Unit)} {x2 : Int32} {x3 : Int32} {y1 : Int32} {y2 : Int64} {M : Mem} {d9 : Nat} (hk1 : isP k1) (h_M : OKb f M) (hx2 : (0 : Int) ≤ (x2).toInt ∧ (x2).toInt ≤ 255) (hx3 : (0 : Int) ≤ (x3).toInt ∧ (x3).toInt ≤ 255) (hy1 : (0 : Int) ≤ (y1).toInt ∧ (y1).toInt ≤ 255) (hih9 : ∀ (yx2 : Int32) (yx3 : Int32) (M : Mem), OKb f M → ((0 : Int) ≤ (yx2).toInt ∧ (yx2).toInt ≤ 255) → ((-1 : Int) ≤ (yx3).toInt ∧ (yx3).toInt ≤ 255) → (yx3).toInt - (-1) < d9 → Sf (ih9 yx2 yx3 M) (pM f)) (hmu9 : (x3).toInt - (-1) ≤ d9) : Sf (mX3_countOrders_b28 110 k1 ih9 x2 x3 y1 y2 M) (pM f) := by
  unfold mX3_countOrders_b28
  refine Sf.k (ok_in (by omega) (by omega)) ?_
  refine Sf.b (fun M8 e_M8 => ?_)
  have h_M8 : OKb f M8 := by rw [e_M8]; exact h_M.pl
  have n_1 : ((0 : Int32)).toInt = 0 := rfl
  exact (sX3_countOrders_l32 hk1 h_M8 ⟨by omega, by omega⟩ ⟨by omega, by omega⟩ ⟨by omega, by omega⟩ hih9 (by omega) (by omega))
set_option maxHeartbeats 2000000 in
theorem sX3_countOrders_b9 {f : Bx} {k1 : Nat} {ih9 : Int32 → Int32 → Mem → Option (Mem × Unit)} {x2 : Int32} {x3 : Int32} {M : Mem} {d9 : Nat} (hk1 : isP k1) (h_M : OKb f M) (hx2 : (0 : Int) ≤ (x2).toInt ∧ (x2).toInt ≤ 255) (hx3 : (-1 : Int) ≤ (x3).toInt ∧ (x3).toInt ≤ 255) (hih9 : ∀ (yx2 : Int32) (yx3 : Int32) (M : Mem), OKb f M → ((0 : Int) ≤ (yx2).toInt ∧ (yx2).toInt ≤ 255) → ((-1 : Int) ≤ (yx3).toInt ∧ (yx3).toInt ≤ 255) → (yx3).toInt - (-1) < d9 → Sf (ih9 yx2 yx3 M) (pM f)) (hmu9 : (x3).toInt - (-1) ≤ d9) : Sf (mX3_countOrders_b9 110 k1 ih9 x2 x3 M) (pM f) := by
  unfold mX3_countOrders_b9
  have n_1 : ((0 : Int32)).toInt = 0 := rfl
  refine Sf.i (fun c_2 => ?_) (fun c_2 => ?_)
  · have c_2 := i_lt.mp c_2
    exact Sf.ok h_M
  · have c_2 := i_nlt c_2
    refine Sf.i (fun c_3 => ?_) (fun c_3 => ?_)
    · have c_3 := i_eq.mp c_3
      exact (sX3_countOrders_b28 hk1 h_M ⟨by omega, by omega⟩ ⟨by omega, by omega⟩ ⟨by omega, by omega⟩ hih9 (by omega))
    · have c_3 := i_ne c_3
      exact (sX3_countOrders_b28 hk1 h_M ⟨by omega, by omega⟩ ⟨by omega, by omega⟩ ⟨by omega, by omega⟩ hih9 (by omega))
theorem sX3_countOrders_l9_n {f : Bx} {k1 : Nat} (hk1 : isP k1)   : ∀ (n : Nat) (x2 : Int32) (x3 : Int32) (M : Mem) (h_M : OKb f M) (hx2 : (0 : Int) ≤ (x2).toInt ∧ (x2).toInt ≤ 255) (hx3 : (-1 : Int) ≤ (x3).toInt ∧ (x3).toInt ≤ 255)    (hmu : (x3).toInt - (-1) < n), Sf (mX3_countOrders_l9 110 k1 n x2 x3 M) (pM f) := by
  intro n
  induction n with
  | zero => intro x2 x3 M h_M hx2 hx3 hmu; exfalso; omega
  | succ n IH => intro x2 x3 M h_M hx2 hx3 hmu; exact sX3_countOrders_b9 hk1 h_M hx2 hx3    IH (by omega)
theorem sX3_countOrders_l9 {f : Bx} {k1 : Nat} (hk1 : isP k1) {x2 : Int32} {x3 : Int32} {M : Mem}  (h_M : OKb f M) (hx2 : (0 : Int) ≤ (x2).toInt ∧ (x2).toInt ≤ 255) (hx3 : (-1 : Int) ≤ (x3).toInt ∧ (x3).toInt ≤ 255)    (hmu : (x3).toInt - (-1) < 5000) : Sf (mX3_countOrders_l9 110 k1 5000 x2 x3 M) (pM f) :=
  sX3_countOrders_l9_n hk1  5000 _ _ M h_M hx2 hx3    hmu
set_option maxHeartbeats 2000000 in
theorem sX3_countOrders {f : Bx} {k1 : Nat} {M : Mem} (hk1 : isP k1) (h_M : OKb f M) : Sf (mX3_countOrders 110 k1 M) (pM f) := by
  unfold mX3_countOrders
  refine Sf.c (sX1_allBends hk1 h_M) (fun r2 p_1 => ?_)
  obtain ⟨p_1a, p_1b⟩ := p_1
  have n_2 : ((255 : Int32)).toInt = 255 := rfl
  exact (sX3_countOrders_l9 hk1 h_M ⟨by omega, by omega⟩ ⟨by omega, by omega⟩ (by omega))
set_option maxHeartbeats 2000000 in
theorem sX3_costThrough_b48 {f : Bx} {k1 : Nat} {M : Mem} {x2 : Int32} {x3 : Int32} {x4 : Int32} {x5 : Int32} {y0 : Int32} (hk1 : isP k1) (h_M : OKb f M) (hx2 : (0 : Int) ≤ (x2).toInt ∧ (x2).toInt ≤ 255) (hx3 : (-1 : Int) ≤ (x3).toInt ∧ (x3).toInt ≤ 15) (hx5 : (0 : Int) ≤ (x5).toInt ∧ (x5).toInt ≤ 15) : Sf (mX3_costThrough_b48 110 k1 M x2 x3 x4 x5 y0) (pI (-2147483648) (2147483647)) := by
  unfold mX3_costThrough_b48
  have n_1 : (((-1) : Int32)).toInt = -1 := rfl
  refine Sf.i (fun c_2 => ?_) (fun c_2 => ?_)
  · have c_2 := i_eq.mp c_2
    exact Sf.ok (i_rng _)
  · have c_2 := i_ne c_2
    have n_3 : ((16 : Int32)).toInt = 16 := rfl
    try have a_4 : ((x2 * (16 : Int32))).toInt = (x2).toInt * 16 := i_mulr (by omega) (by omega) (by omega)
    try have a_5 : (((x2 * (16 : Int32)) + x5)).toInt = ((x2 * (16 : Int32))).toInt + (x5).toInt := i_add (by omega) (by omega)
    refine Sf.k (ok_in (by omega) (by omega)) ?_
    have b_6 : (0 : Int) ≤ (rd M (110 + 20) ((((x2 * (16 : Int32)) + x5)).toNatClampNeg)).toInt ∧ (rd M (110 + 20) ((((x2 * (16 : Int32)) + x5)).toNatClampNeg)).toInt ≤ 2147483647 := h_M.at rfl
    have g_7 := i_rng (rd M (110 + 20) ((((x2 * (16 : Int32)) + x5)).toNatClampNeg))
    refine Sf.c (sX1_priceBetween hk1 h_M ⟨by omega, by omega⟩ ⟨by omega, by omega⟩ ⟨by omega, by omega⟩) (fun r14 p_8 => ?_)
    obtain ⟨p_8a, p_8b⟩ := p_8
    exact Sf.ok (i_rng _)
set_option maxHeartbeats 2000000 in
theorem sX3_costThrough {f : Bx} {k1 : Nat} {x2 : Int32} {x3 : Int32} {x4 : Int32} {x5 : Int32} {x6 : Int32} {M : Mem} (hk1 : isP k1) (h_M : OKb f M) (hx2 : (0 : Int) ≤ (x2).toInt ∧ (x2).toInt ≤ 255) (hx3 : (-1 : Int) ≤ (x3).toInt ∧ (x3).toInt ≤ 15) (hx5 : (0 : Int) ≤ (x5).toInt ∧ (x5).toInt ≤ 15) (hx6 : (0 : Int) ≤ (x6).toInt ∧ (x6).toInt ≤ 1) : Sf (mX3_costThrough 110 k1 x2 x3 x4 x5 x6 M) (pI (-2147483648) (2147483647)) := by
  unfold mX3_costThrough
  refine Sf.c (sX3_isOpen h_M ⟨by omega, by omega⟩ ⟨by omega, by omega⟩) (fun r2 p_1 => ?_)
  obtain ⟨p_1a, p_1b⟩ := p_1
  have n_2 : ((0 : Int32)).toInt = 0 := rfl
  refine Sf.i (fun c_3 => ?_) (fun c_3 => ?_)
  · have c_3 := i_eq.mp c_3
    exact Sf.ok (i_rng _)
  · have c_3 := i_ne c_3
    refine Sf.c (sX3_setBehind h_M ⟨by omega, by omega⟩ ⟨by omega, by omega⟩) (fun r6 p_4 => ?_)
    obtain ⟨p_4a, p_4b⟩ := p_4
    have n_5 : ((16 : Int32)).toInt = 16 := rfl
    try have a_6 : ((r6 * (16 : Int32))).toInt = (r6).toInt * 16 := i_mulr (by omega) (by omega) (by omega)
    try have a_7 : (((r6 * (16 : Int32)) + x5)).toInt = ((r6 * (16 : Int32))).toInt + (x5).toInt := i_add (by omega) (by omega)
    refine Sf.b (fun x7_24 e_x7_24 => ?_)
    have d_x7_24 := congrArg Int32.toInt e_x7_24
    refine Sf.i (fun c_8 => ?_) (fun c_8 => ?_)
    · have c_8 := i_eq.mp c_8
      refine Sf.k (ok_in (by omega) (by omega)) ?_
      exact (sX3_costThrough_b48 hk1 h_M ⟨by omega, by omega⟩ ⟨by omega, by omega⟩ ⟨by omega, by omega⟩)
    · have c_8 := i_ne c_8
      refine Sf.k (ok_in (by omega) (by omega)) ?_
      exact (sX3_costThrough_b48 hk1 h_M ⟨by omega, by omega⟩ ⟨by omega, by omega⟩ ⟨by omega, by omega⟩)
set_option maxHeartbeats 2000000 in
theorem sX3_costOnward_b88 {f : Bx} {k1 : Nat} {M : Mem} {ih16 : Int32 → Int32 → Int32 → Int32 → Int32 → Int32 → Option Int32} {x2 : Int32} {x3 : Int32} {x4 : Int32} {x5 : Int32} {x6 : Int32} {x7 : Int32} {d16 : Nat} (hk1 : isP k1) (h_M : OKb f M) (hx2 : (0 : Int) ≤ (x2).toInt ∧ (x2).toInt ≤ 255) (hx3 : (-1 : Int) ≤ (x3).toInt ∧ (x3).toInt ≤ 15) (hx5 : (0 : Int) ≤ (x5).toInt ∧ (x5).toInt ≤ 1) (hx7 : (0 : Int) ≤ (x7).toInt ∧ (x7).toInt ≤ 15) (hih16 : ∀ (yx2 : Int32) (yx3 : Int32) (yx4 : Int32) (yx5 : Int32) (yx6 : Int32) (yx7 : Int32), ((0 : Int) ≤ (yx2).toInt ∧ (yx2).toInt ≤ 255) → ((-1 : Int) ≤ (yx3).toInt ∧ (yx3).toInt ≤ 15) → ((0 : Int) ≤ (yx5).toInt ∧ (yx5).toInt ≤ 1) → ((0 : Int) ≤ (yx7).toInt ∧ (yx7).toInt ≤ 16) → 16 - (yx7).toInt < d16 → Sf (ih16 yx2 yx3 yx4 yx5 yx6 yx7) (pI (-2147483648) (2147483647))) (hmu16 : 16 - (x7).toInt ≤ d16) : Sf (mX3_costOnward_b88 110 k1 M ih16 x2 x3 x4 x5 x6 x7) (pI (-2147483648) (2147483647)) := by
  unfold mX3_costOnward_b88
  have n_1 : ((1 : Int32)).toInt = 1 := rfl
  try have a_2 : ((x7 + (1 : Int32))).toInt = (x7).toInt + ((1 : Int32)).toInt := i_add (by omega) (by omega)
  refine Sf.b (fun x7_88 e_x7_88 => ?_)
  have d_x7_88 := congrArg Int32.toInt e_x7_88
  exact (hih16 _ _ _ _ _ _ ⟨by omega, by omega⟩ ⟨by omega, by omega⟩ ⟨by omega, by omega⟩ ⟨by omega, by omega⟩ (by omega))
set_option maxHeartbeats 2000000 in
theorem sX3_costOnward_b71 {f : Bx} {k1 : Nat} {M : Mem} {ih16 : Int32 → Int32 → Int32 → Int32 → Int32 → Int32 → Option Int32} {x2 : Int32} {x3 : Int32} {x4 : Int32} {x5 : Int32} {x6 : Int32} {x7 : Int32} {x8 : Int32} {y0 : Int32} {d16 : Nat} (hk1 : isP k1) (h_M : OKb f M) (hx2 : (0 : Int) ≤ (x2).toInt ∧ (x2).toInt ≤ 255) (hx3 : (-1 : Int) ≤ (x3).toInt ∧ (x3).toInt ≤ 15) (hx5 : (0 : Int) ≤ (x5).toInt ∧ (x5).toInt ≤ 1) (hx7 : (0 : Int) ≤ (x7).toInt ∧ (x7).toInt ≤ 15) (hy0 : (0 : Int) ≤ (y0).toInt ∧ (y0).toInt ≤ 1) (hih16 : ∀ (yx2 : Int32) (yx3 : Int32) (yx4 : Int32) (yx5 : Int32) (yx6 : Int32) (yx7 : Int32), ((0 : Int) ≤ (yx2).toInt ∧ (yx2).toInt ≤ 255) → ((-1 : Int) ≤ (yx3).toInt ∧ (yx3).toInt ≤ 15) → ((0 : Int) ≤ (yx5).toInt ∧ (yx5).toInt ≤ 1) → ((0 : Int) ≤ (yx7).toInt ∧ (yx7).toInt ≤ 16) → 16 - (yx7).toInt < d16 → Sf (ih16 yx2 yx3 yx4 yx5 yx6 yx7) (pI (-2147483648) (2147483647))) (hmu16 : 16 - (x7).toInt ≤ d16) : Sf (mX3_costOnward_b71 110 k1 M ih16 x2 x3 x4 x5 x6 x7 x8 y0) (pI (-2147483648) (2147483647)) := by
  unfold mX3_costOnward_b71
  have n_1 : (((-1) : Int32)).toInt = -1 := rfl
  refine Sf.i (fun c_2 => ?_) (fun c_2 => ?_)
  · have c_2 := i_eq.mp c_2
    exact (sX3_costOnward_b88 hk1 h_M ⟨by omega, by omega⟩ ⟨by omega, by omega⟩ ⟨by omega, by omega⟩ ⟨by omega, by omega⟩ hih16 (by omega))
  · have c_2 := i_ne c_2
    have n_3 : ((0 : Int32)).toInt = 0 := rfl
    refine Sf.i (fun c_4 => ?_) (fun c_4 => ?_)
    · have c_4 := i_eq.mp c_4
      exact (sX3_costOnward_b88 hk1 h_M ⟨by omega, by omega⟩ ⟨by omega, by omega⟩ ⟨by omega, by omega⟩ ⟨by omega, by omega⟩ hih16 (by omega))
    · have c_4 := i_ne c_4
      exact (sX3_costOnward_b88 hk1 h_M ⟨by omega, by omega⟩ ⟨by omega, by omega⟩ ⟨by omega, by omega⟩ ⟨by omega, by omega⟩ hih16 (by omega))
set_option maxHeartbeats 2000000 in
theorem sX3_costOnward_b66 {f : Bx} {k1 : Nat} {M : Mem} {ih16 : Int32 → Int32 → Int32 → Int32 → Int32 → Int32 → Option Int32} {x2 : Int32} {x3 : Int32} {x4 : Int32} {x5 : Int32} {x6 : Int32} {x7 : Int32} {x8 : Int32} {d16 : Nat} (hk1 : isP k1) (h_M : OKb f M) (hx2 : (0 : Int) ≤ (x2).toInt ∧ (x2).toInt ≤ 255) (hx3 : (-1 : Int) ≤ (x3).toInt ∧ (x3).toInt ≤ 15) (hx5 : (0 : Int) ≤ (x5).toInt ∧ (x5).toInt ≤ 1) (hx7 : (0 : Int) ≤ (x7).toInt ∧ (x7).toInt ≤ 15) (hih16 : ∀ (yx2 : Int32) (yx3 : Int32) (yx4 : Int32) (yx5 : Int32) (yx6 : Int32) (yx7 : Int32), ((0 : Int) ≤ (yx2).toInt ∧ (yx2).toInt ≤ 255) → ((-1 : Int) ≤ (yx3).toInt ∧ (yx3).toInt ≤ 15) → ((0 : Int) ≤ (yx5).toInt ∧ (yx5).toInt ≤ 1) → ((0 : Int) ≤ (yx7).toInt ∧ (yx7).toInt ≤ 16) → 16 - (yx7).toInt < d16 → Sf (ih16 yx2 yx3 yx4 yx5 yx6 yx7) (pI (-2147483648) (2147483647))) (hmu16 : 16 - (x7).toInt ≤ d16) : Sf (mX3_costOnward_b66 110 k1 M ih16 x2 x3 x4 x5 x6 x7 x8) (pI (-2147483648) (2147483647)) := by
  unfold mX3_costOnward_b66
  have n_1 : ((1 : Int32)).toInt = 1 := rfl
  exact (sX3_costOnward_b71 hk1 h_M ⟨by omega, by omega⟩ ⟨by omega, by omega⟩ ⟨by omega, by omega⟩ ⟨by omega, by omega⟩ ⟨by omega, by omega⟩ hih16 (by omega))
set_option maxHeartbeats 2000000 in
theorem sX3_costOnward_b70 {f : Bx} {k1 : Nat} {M : Mem} {ih16 : Int32 → Int32 → Int32 → Int32 → Int32 → Int32 → Option Int32} {x2 : Int32} {x3 : Int32} {x4 : Int32} {x5 : Int32} {x6 : Int32} {x7 : Int32} {x8 : Int32} {d16 : Nat} (hk1 : isP k1) (h_M : OKb f M) (hx2 : (0 : Int) ≤ (x2).toInt ∧ (x2).toInt ≤ 255) (hx3 : (-1 : Int) ≤ (x3).toInt ∧ (x3).toInt ≤ 15) (hx5 : (0 : Int) ≤ (x5).toInt ∧ (x5).toInt ≤ 1) (hx7 : (0 : Int) ≤ (x7).toInt ∧ (x7).toInt ≤ 15) (hih16 : ∀ (yx2 : Int32) (yx3 : Int32) (yx4 : Int32) (yx5 : Int32) (yx6 : Int32) (yx7 : Int32), ((0 : Int) ≤ (yx2).toInt ∧ (yx2).toInt ≤ 255) → ((-1 : Int) ≤ (yx3).toInt ∧ (yx3).toInt ≤ 15) → ((0 : Int) ≤ (yx5).toInt ∧ (yx5).toInt ≤ 1) → ((0 : Int) ≤ (yx7).toInt ∧ (yx7).toInt ≤ 16) → 16 - (yx7).toInt < d16 → Sf (ih16 yx2 yx3 yx4 yx5 yx6 yx7) (pI (-2147483648) (2147483647))) (hmu16 : 16 - (x7).toInt ≤ d16) : Sf (mX3_costOnward_b70 110 k1 M ih16 x2 x3 x4 x5 x6 x7 x8) (pI (-2147483648) (2147483647)) := by
  unfold mX3_costOnward_b70
  have n_1 : ((0 : Int32)).toInt = 0 := rfl
  exact (sX3_costOnward_b71 hk1 h_M ⟨by omega, by omega⟩ ⟨by omega, by omega⟩ ⟨by omega, by omega⟩ ⟨by omega, by omega⟩ ⟨by omega, by omega⟩ hih16 (by omega))
set_option maxHeartbeats 2000000 in
theorem sX3_costOnward_b16 {f : Bx} {k1 : Nat} {M : Mem} {ih16 : Int32 → Int32 → Int32 → Int32 → Int32 → Int32 → Option Int32} {x2 : Int32} {x3 : Int32} {x4 : Int32} {x5 : Int32} {x6 : Int32} {x7 : Int32} {d16 : Nat} (hk1 : isP k1) (h_M : OKb f M) (hx2 : (0 : Int) ≤ (x2).toInt ∧ (x2).toInt ≤ 255) (hx3 : (-1 : Int) ≤ (x3).toInt ∧ (x3).toInt ≤ 15) (hx5 : (0 : Int) ≤ (x5).toInt ∧ (x5).toInt ≤ 1) (hx7 : (0 : Int) ≤ (x7).toInt ∧ (x7).toInt ≤ 16) (hih16 : ∀ (yx2 : Int32) (yx3 : Int32) (yx4 : Int32) (yx5 : Int32) (yx6 : Int32) (yx7 : Int32), ((0 : Int) ≤ (yx2).toInt ∧ (yx2).toInt ≤ 255) → ((-1 : Int) ≤ (yx3).toInt ∧ (yx3).toInt ≤ 15) → ((0 : Int) ≤ (yx5).toInt ∧ (yx5).toInt ≤ 1) → ((0 : Int) ≤ (yx7).toInt ∧ (yx7).toInt ≤ 16) → 16 - (yx7).toInt < d16 → Sf (ih16 yx2 yx3 yx4 yx5 yx6 yx7) (pI (-2147483648) (2147483647))) (hmu16 : 16 - (x7).toInt ≤ d16) : Sf (mX3_costOnward_b16 110 k1 M ih16 x2 x3 x4 x5 x6 x7) (pI (-2147483648) (2147483647)) := by
  unfold mX3_costOnward_b16
  have n_1 : ((16 : Int32)).toInt = 16 := rfl
  refine Sf.i (fun c_2 => ?_) (fun c_2 => ?_)
  · have c_2 := i_le.mp c_2
    exact Sf.ok (i_rng _)
  · have c_2 := i_nle c_2
    refine Sf.c (sX3_costThrough hk1 h_M ⟨by omega, by omega⟩ ⟨by omega, by omega⟩ ⟨by omega, by omega⟩ ⟨by omega, by omega⟩) (fun r7 p_3 => ?_)
    obtain ⟨p_3a, p_3b⟩ := p_3
    have n_4 : (((-1) : Int32)).toInt = -1 := rfl
    refine Sf.i (fun c_5 => ?_) (fun c_5 => ?_)
    · have c_5 := i_eq.mp c_5
      exact (sX3_costOnward_b66 hk1 h_M ⟨by omega, by omega⟩ ⟨by omega, by omega⟩ ⟨by omega, by omega⟩ ⟨by omega, by omega⟩ hih16 (by omega))
    · have c_5 := i_ne c_5
      have n_6 : ((0 : Int32)).toInt = 0 := rfl
      refine Sf.i (fun c_7 => ?_) (fun c_7 => ?_)
      · have c_7 := i_eq.mp c_7
        refine Sf.i (fun c_8 => ?_) (fun c_8 => ?_)
        · have c_8 := i_le.mp c_8
          exact (sX3_costOnward_b70 hk1 h_M ⟨by omega, by omega⟩ ⟨by omega, by omega⟩ ⟨by omega, by omega⟩ ⟨by omega, by omega⟩ hih16 (by omega))
        · have c_8 := i_nle c_8
          exact (sX3_costOnward_b66 hk1 h_M ⟨by omega, by omega⟩ ⟨by omega, by omega⟩ ⟨by omega, by omega⟩ ⟨by omega, by omega⟩ hih16 (by omega))
      · have c_7 := i_ne c_7
        refine Sf.i (fun c_9 => ?_) (fun c_9 => ?_)
        · have c_9 := i_le.mp c_9
          exact (sX3_costOnward_b70 hk1 h_M ⟨by omega, by omega⟩ ⟨by omega, by omega⟩ ⟨by omega, by omega⟩ ⟨by omega, by omega⟩ hih16 (by omega))
        · have c_9 := i_nle c_9
          exact (sX3_costOnward_b66 hk1 h_M ⟨by omega, by omega⟩ ⟨by omega, by omega⟩ ⟨by omega, by omega⟩ ⟨by omega, by omega⟩ hih16 (by omega))
theorem sX3_costOnward_l16_n {f : Bx} {k1 : Nat} (hk1 : isP k1) {M : Mem}  (h_M : OKb f M)   : ∀ (n : Nat) (x2 : Int32) (x3 : Int32) (x4 : Int32) (x5 : Int32) (x6 : Int32) (x7 : Int32) (hx2 : (0 : Int) ≤ (x2).toInt ∧ (x2).toInt ≤ 255) (hx3 : (-1 : Int) ≤ (x3).toInt ∧ (x3).toInt ≤ 15) (hx5 : (0 : Int) ≤ (x5).toInt ∧ (x5).toInt ≤ 1) (hx7 : (0 : Int) ≤ (x7).toInt ∧ (x7).toInt ≤ 16)   (hmu : 16 - (x7).toInt < n), Sf (mX3_costOnward_l16 110 k1 M n x2 x3 x4 x5 x6 x7) (pI (-2147483648) (2147483647)) := by
  intro n
  induction n with
  | zero => intro x2 x3 x4 x5 x6 x7 hx2 hx3 hx5 hx7 hmu; exfalso; omega
  | succ n IH => intro x2 x3 x4 x5 x6 x7 hx2 hx3 hx5 hx7 hmu; exact sX3_costOnward_b16 hk1 h_M hx2 hx3 hx5 hx7    IH (by omega)
theorem sX3_costOnward_l16 {f : Bx} {k1 : Nat} (hk1 : isP k1) {M : Mem} {x2 : Int32} {x3 : Int32} {x4 : Int32} {x5 : Int32} {x6 : Int32} {x7 : Int32}  (h_M : OKb f M) (hx2 : (0 : Int) ≤ (x2).toInt ∧ (x2).toInt ≤ 255) (hx3 : (-1 : Int) ≤ (x3).toInt ∧ (x3).toInt ≤ 15) (hx5 : (0 : Int) ≤ (x5).toInt ∧ (x5).toInt ≤ 1) (hx7 : (0 : Int) ≤ (x7).toInt ∧ (x7).toInt ≤ 16)    (hmu : 16 - (x7).toInt < 5000) : Sf (mX3_costOnward_l16 110 k1 M 5000 x2 x3 x4 x5 x6 x7) (pI (-2147483648) (2147483647)) :=
  sX3_costOnward_l16_n hk1 h_M   5000 _ _ _ _ _ _ hx2 hx3 hx5 hx7   hmu
set_option maxHeartbeats 2000000 in
theorem sX3_costOnward {f : Bx} {k1 : Nat} {x2 : Int32} {x3 : Int32} {x4 : Int32} {x5 : Int32} {M : Mem} (hk1 : isP k1) (h_M : OKb f M) (hx2 : (0 : Int) ≤ (x2).toInt ∧ (x2).toInt ≤ 255) (hx3 : (-1 : Int) ≤ (x3).toInt ∧ (x3).toInt ≤ 15) (hx5 : (0 : Int) ≤ (x5).toInt ∧ (x5).toInt ≤ 1) : Sf (mX3_costOnward 110 k1 x2 x3 x4 x5 M) (pI (-2147483648) (2147483647)) := by
  unfold mX3_costOnward
  refine Sf.c (sX1_allBends hk1 h_M) (fun r2 p_1 => ?_)
  obtain ⟨p_1a, p_1b⟩ := p_1
  refine Sf.i (fun c_2 => ?_) (fun c_2 => ?_)
  · have c_2 := i_eq.mp c_2
    exact Sf.ok (i_rng _)
  · have c_2 := i_ne c_2
    have n_3 : ((0 : Int32)).toInt = 0 := rfl
    exact (sX3_costOnward_l16 hk1 h_M ⟨by omega, by omega⟩ ⟨by omega, by omega⟩ ⟨by omega, by omega⟩ ⟨by omega, by omega⟩ (by omega))
set_option maxHeartbeats 2000000 in
theorem sX3_reckonCostsBehind_b101 {f : Bx} {k1 : Nat} {ih2 : Int32 → Int32 → Mem → Option (Mem × Unit)} {x2 : Int32} {x3 : Int32} {M : Mem} {d2 : Nat} (hk1 : isP k1) (h_M : OKb f M) (hx2 : (0 : Int) ≤ (x2).toInt ∧ (x2).toInt ≤ 255) (hx3 : (0 : Int) ≤ (x3).toInt ∧ (x3).toInt ≤ 15) (hih2 : ∀ (yx2 : Int32) (yx3 : Int32) (M : Mem), OKb f M → ((0 : Int) ≤ (yx2).toInt ∧ (yx2).toInt ≤ 255) → ((0 : Int) ≤ (yx3).toInt ∧ (yx3).toInt ≤ 16) → 16 - (yx3).toInt < d2 → Sf (ih2 yx2 yx3 M) (pM f)) (hmu2 : 16 - (x3).toInt ≤ d2) : Sf (mX3_reckonCostsBehind_b101 110 k1 ih2 x2 x3 M) (pM f) := by
  unfold mX3_reckonCostsBehind_b101
  have n_1 : ((1 : Int32)).toInt = 1 := rfl
  try have a_2 : ((x3 + (1 : Int32))).toInt = (x3).toInt + ((1 : Int32)).toInt := i_add (by omega) (by omega)
  refine Sf.b (fun x3_101 e_x3_101 => ?_)
  have d_x3_101 := congrArg Int32.toInt e_x3_101
  exact (hih2 _ _ _ h_M ⟨by omega, by omega⟩ ⟨by omega, by omega⟩ (by omega))
set_option maxHeartbeats 2000000 in
theorem sX3_reckonCostsBehind_b2 {f : Bx} {k1 : Nat} {ih2 : Int32 → Int32 → Mem → Option (Mem × Unit)} {x2 : Int32} {x3 : Int32} {M : Mem} {d2 : Nat} (hk1 : isP k1) (h_M : OKb f M) (hx2 : (0 : Int) ≤ (x2).toInt ∧ (x2).toInt ≤ 255) (hx3 : (0 : Int) ≤ (x3).toInt ∧ (x3).toInt ≤ 16) (hih2 : ∀ (yx2 : Int32) (yx3 : Int32) (M : Mem), OKb f M → ((0 : Int) ≤ (yx2).toInt ∧ (yx2).toInt ≤ 255) → ((0 : Int) ≤ (yx3).toInt ∧ (yx3).toInt ≤ 16) → 16 - (yx3).toInt < d2 → Sf (ih2 yx2 yx3 M) (pM f)) (hmu2 : 16 - (x3).toInt ≤ d2) : Sf (mX3_reckonCostsBehind_b2 110 k1 ih2 x2 x3 M) (pM f) := by
  unfold mX3_reckonCostsBehind_b2
  have n_1 : ((16 : Int32)).toInt = 16 := rfl
  refine Sf.i (fun c_2 => ?_) (fun c_2 => ?_)
  · have c_2 := i_le.mp c_2
    exact Sf.ok h_M
  · have c_2 := i_nle c_2
    try have a_3 := i_shr1 (a := x3)
    try have a_4 : 0 < (((1 : Int32) <<< ((x3 >>> ((1 : Int32) &&& 31)) &&& 31))).toInt ∧ (((1 : Int32) <<< ((x3 >>> ((1 : Int32) &&& 31)) &&& 31))).toInt ≤ 128 := i_shl 7 (by decide) ⟨by omega, by omega⟩
    have n_5 : (((-1) : Int32)).toInt = -1 := rfl
    try have a_6 := i_and (a := x2) (b := (((1 : Int32) <<< ((x3 >>> ((1 : Int32) &&& 31)) &&& 31)) ^^^ ((-1) : Int32))) (by omega)
    refine Sf.b (fun x4_17 e_x4_17 => ?_)
    have d_x4_17 := congrArg Int32.toInt e_x4_17
    refine Sf.i (fun c_7 => ?_) (fun c_7 => ?_)
    · have c_7 := i_eq.mp c_7
      exact (sX3_reckonCostsBehind_b101 hk1 h_M ⟨by omega, by omega⟩ ⟨by omega, by omega⟩ hih2 (by omega))
    · have c_7 := i_ne c_7
      refine Sf.k (ok_in (by omega) (by omega)) ?_
      have b_8 : (0 : Int) ≤ (rd M (110 + 18) ((x4_17).toNatClampNeg)).toInt ∧ (rd M (110 + 18) ((x4_17).toNatClampNeg)).toInt ≤ 1 := h_M.at rfl
      have n_9 : ((0 : Int32)).toInt = 0 := rfl
      refine Sf.i (fun c_10 => ?_) (fun c_10 => ?_)
      · have c_10 := i_eq.mp c_10
        exact (sX3_reckonCostsBehind_b101 hk1 h_M ⟨by omega, by omega⟩ ⟨by omega, by omega⟩ hih2 (by omega))
      · have c_10 := i_ne c_10
        refine Sf.c (sX3_isOpen h_M ⟨by omega, by omega⟩ ⟨by omega, by omega⟩) (fun r8 p_11 => ?_)
        obtain ⟨p_11a, p_11b⟩ := p_11
        refine Sf.i (fun c_12 => ?_) (fun c_12 => ?_)
        · have c_12 := i_eq.mp c_12
          exact (sX3_reckonCostsBehind_b101 hk1 h_M ⟨by omega, by omega⟩ ⟨by omega, by omega⟩ hih2 (by omega))
        · have c_12 := i_ne c_12
          try have a_13 : ((x4_17 * (16 : Int32))).toInt = (x4_17).toInt * 16 := i_mulr (by omega) (by omega) (by omega)
          try have a_14 : (((x4_17 * (16 : Int32)) + x3)).toInt = ((x4_17 * (16 : Int32))).toInt + (x3).toInt := i_add (by omega) (by omega)
          refine Sf.k (ok_in (by omega) (by omega)) ?_
          have b_15 : (0 : Int) ≤ (rd M (110 + 20) ((((x4_17 * (16 : Int32)) + x3)).toNatClampNeg)).toInt ∧ (rd M (110 + 20) ((((x4_17 * (16 : Int32)) + x3)).toNatClampNeg)).toInt ≤ 2147483647 := h_M.at rfl
          refine Sf.b (fun x5_57 e_x5_57 => ?_)
          have d_x5_57 := congrArg Int32.toInt e_x5_57
          have n_16 : ((1 : Int32)).toInt = 1 := rfl
          refine Sf.c (sX3_costOnward hk1 h_M ⟨by omega, by omega⟩ ⟨by omega, by omega⟩ ⟨by omega, by omega⟩) (fun r14 p_17 => ?_)
          obtain ⟨p_17a, p_17b⟩ := p_17
          try have a_18 : ((x2 * (16 : Int32))).toInt = (x2).toInt * 16 := i_mulr (by omega) (by omega) (by omega)
          try have a_19 : (((x2 * (16 : Int32)) + x3)).toInt = ((x2 * (16 : Int32))).toInt + (x3).toInt := i_add (by omega) (by omega)
          refine Sf.k (ok_in (by omega) (by omega)) ?_
          refine Sf.b (fun M18 e_M18 => ?_)
          have h_M18 : OKb f M18 := by rw [e_M18]; exact h_M.put rfl (i_rng _)
          have n_20 : ((0 : Int32)).toInt = 0 := rfl
          refine Sf.c (sX3_costOnward hk1 h_M18 ⟨by omega, by omega⟩ ⟨by omega, by omega⟩ ⟨by omega, by omega⟩) (fun r20 p_21 => ?_)
          obtain ⟨p_21a, p_21b⟩ := p_21
          refine Sf.k (ok_in (by omega) (by omega)) ?_
          refine Sf.b (fun M24 e_M24 => ?_)
          have h_M24 : OKb f M24 := by rw [e_M24]; exact h_M18.put rfl (i_rng _)
          exact (sX3_reckonCostsBehind_b101 hk1 h_M24 ⟨by omega, by omega⟩ ⟨by omega, by omega⟩ hih2 (by omega))
theorem sX3_reckonCostsBehind_l2_n {f : Bx} {k1 : Nat} (hk1 : isP k1)   : ∀ (n : Nat) (x2 : Int32) (x3 : Int32) (M : Mem) (h_M : OKb f M) (hx2 : (0 : Int) ≤ (x2).toInt ∧ (x2).toInt ≤ 255) (hx3 : (0 : Int) ≤ (x3).toInt ∧ (x3).toInt ≤ 16)    (hmu : 16 - (x3).toInt < n), Sf (mX3_reckonCostsBehind_l2 110 k1 n x2 x3 M) (pM f) := by
  intro n
  induction n with
  | zero => intro x2 x3 M h_M hx2 hx3 hmu; exfalso; omega
  | succ n IH => intro x2 x3 M h_M hx2 hx3 hmu; exact sX3_reckonCostsBehind_b2 hk1 h_M hx2 hx3    IH (by omega)
theorem sX3_reckonCostsBehind_l2 {f : Bx} {k1 : Nat} (hk1 : isP k1) {x2 : Int32} {x3 : Int32} {M : Mem}  (h_M : OKb f M) (hx2 : (0 : Int) ≤ (x2).toInt ∧ (x2).toInt ≤ 255) (hx3 : (0 : Int) ≤ (x3).toInt ∧ (x3).toInt ≤ 16)    (hmu : 16 - (x3).toInt < 5000) : Sf (mX3_reckonCostsBehind_l2 110 k1 5000 x2 x3 M) (pM f) :=
  sX3_reckonCostsBehind_l2_n hk1  5000 _ _ M h_M hx2 hx3    hmu
set_option maxHeartbeats 2000000 in
theorem sX3_reckonCostsBehind {f : Bx} {k1 : Nat} {x2 : Int32} {M : Mem} (hk1 : isP k1) (h_M : OKb f M) (hx2 : (0 : Int) ≤ (x2).toInt ∧ (x2).toInt ≤ 255) : Sf (mX3_reckonCostsBehind 110 k1 x2 M) (pM f) := by
  unfold mX3_reckonCostsBehind
  have n_1 : ((0 : Int32)).toInt = 0 := rfl
  exact (sX3_reckonCostsBehind_l2 hk1 h_M ⟨by omega, by omega⟩ ⟨by omega, by omega⟩ (by omega))
set_option maxHeartbeats 2000000 in
theorem sX3_reckonCosts_b27 {f : Bx} {k1 : Nat} {ih4 : Int32 → Mem → Option (Mem × Unit)} {x2 : Int32} {M : Mem} {d4 : Nat} (hk1 : isP k1) (h_M : OKb f M) (hx2 : (0 : Int) ≤ (x2).toInt ∧ (x2).toInt ≤ 255) (hih4 : ∀ (yx2 : Int32) (M : Mem), OKb f M → ((-1 : Int) ≤ (yx2).toInt ∧ (yx2).toInt ≤ 255) → (yx2).toInt - (-1) < d4 → Sf (ih4 yx2 M) (pM f)) (hmu4 : (x2).toInt - (-1) ≤ d4) : Sf (mX3_reckonCosts_b27 110 k1 ih4 x2 M) (pM f) := by
  unfold mX3_reckonCosts_b27
  have n_1 : (((-1) : Int32)).toInt = -1 := rfl
  try have a_2 : ((x2 + ((-1) : Int32))).toInt = (x2).toInt + (((-1) : Int32)).toInt := i_add (by omega) (by omega)
  refine Sf.b (fun x2_27 e_x2_27 => ?_)
  have d_x2_27 := congrArg Int32.toInt e_x2_27
  exact (hih4 _ _ h_M ⟨by omega, by omega⟩ (by omega))
set_option maxHeartbeats 2000000 in
theorem sX3_reckonCosts_b4 {f : Bx} {k1 : Nat} {ih4 : Int32 → Mem → Option (Mem × Unit)} {x2 : Int32} {M : Mem} {d4 : Nat} (hk1 : isP k1) (h_M : OKb f M) (hx2 : (-1 : Int) ≤ (x2).toInt ∧ (x2).toInt ≤ 255) (hih4 : ∀ (yx2 : Int32) (M : Mem), OKb f M → ((-1 : Int) ≤ (yx2).toInt ∧ (yx2).toInt ≤ 255) → (yx2).toInt - (-1) < d4 → Sf (ih4 yx2 M) (pM f)) (hmu4 : (x2).toInt - (-1) ≤ d4) : Sf (mX3_reckonCosts_b4 110 k1 ih4 x2 M) (pM f) := by
  unfold mX3_reckonCosts_b4
  have b_1 : (0 : Int) ≤ (rd M k1 13).toInt ∧ (rd M k1 13).toInt ≤ 255 := h_M.at (bx_P0 hk1)
  refine Sf.i (fun c_2 => ?_) (fun c_2 => ?_)
  · have c_2 := i_le.mp c_2
    refine Sf.c (sX1_lastCode hk1 h_M) (fun r3 p_3 => ?_)
    obtain ⟨p_3a, p_3b⟩ := p_3
    refine Sf.c (sX1_lastGauge hk1 h_M) (fun r6 p_4 => ?_)
    obtain ⟨p_4a, p_4b⟩ := p_4
    have n_5 : ((1 : Int32)).toInt = 1 := rfl
    refine Sf.c (sX3_costOnward hk1 h_M ⟨by omega, by omega⟩ ⟨by omega, by omega⟩ ⟨by omega, by omega⟩) (fun r9 p_6 => ?_)
    obtain ⟨p_6a, p_6b⟩ := p_6
    refine Sf.b (fun M11 e_M11 => ?_)
    have h_M11 : OKb f M11 := by rw [e_M11]; exact h_M.put rfl (i_rng _)
    refine Sf.c (sX1_lastCode hk1 h_M11) (fun r14 p_7 => ?_)
    obtain ⟨p_7a, p_7b⟩ := p_7
    refine Sf.c (sX1_lastGauge hk1 h_M11) (fun r17 p_8 => ?_)
    obtain ⟨p_8a, p_8b⟩ := p_8
    have b_10 : (0 : Int) ≤ (rd M11 k1 13).toInt ∧ (rd M11 k1 13).toInt ≤ 255 := h_M11.at (bx_P0 hk1)
    have n_11 : ((0 : Int32)).toInt = 0 := rfl
    refine Sf.c (sX3_costOnward hk1 h_M11 ⟨by omega, by omega⟩ ⟨by omega, by omega⟩ ⟨by omega, by omega⟩) (fun r20 p_12 => ?_)
    obtain ⟨p_12a, p_12b⟩ := p_12
    refine Sf.b (fun M22 e_M22 => ?_)
    have h_M22 : OKb f M22 := by rw [e_M22]; exact h_M11.put rfl (i_rng _)
    exact Sf.ok h_M22
  · have c_2 := i_nle c_2
    refine Sf.k (ok_in (by omega) (by omega)) ?_
    have b_13 : (0 : Int) ≤ (rd M (110 + 18) ((x2).toNatClampNeg)).toInt ∧ (rd M (110 + 18) ((x2).toNatClampNeg)).toInt ≤ 1 := h_M.at rfl
    have n_14 : ((0 : Int32)).toInt = 0 := rfl
    refine Sf.i (fun c_15 => ?_) (fun c_15 => ?_)
    · have c_15 := i_eq.mp c_15
      exact (sX3_reckonCosts_b27 hk1 h_M ⟨by omega, by omega⟩ hih4 (by omega))
    · have c_15 := i_ne c_15
      refine Sf.m (sX3_reckonCostsBehind hk1 h_M ⟨by omega, by omega⟩) (fun M29 _ h_M29 => ?_)
      have h_M29 : OKb f M29 := h_M29
      exact (sX3_reckonCosts_b27 hk1 h_M29 ⟨by omega, by omega⟩ hih4 (by omega))
theorem sX3_reckonCosts_l4_n {f : Bx} {k1 : Nat} (hk1 : isP k1)   : ∀ (n : Nat) (x2 : Int32) (M : Mem) (h_M : OKb f M) (hx2 : (-1 : Int) ≤ (x2).toInt ∧ (x2).toInt ≤ 255)    (hmu : (x2).toInt - (-1) < n), Sf (mX3_reckonCosts_l4 110 k1 n x2 M) (pM f) := by
  intro n
  induction n with
  | zero => intro x2 M h_M hx2 hmu; exfalso; omega
  | succ n IH => intro x2 M h_M hx2 hmu; exact sX3_reckonCosts_b4 hk1 h_M hx2    IH (by omega)
theorem sX3_reckonCosts_l4 {f : Bx} {k1 : Nat} (hk1 : isP k1) {x2 : Int32} {M : Mem}  (h_M : OKb f M) (hx2 : (-1 : Int) ≤ (x2).toInt ∧ (x2).toInt ≤ 255)    (hmu : (x2).toInt - (-1) < 5000) : Sf (mX3_reckonCosts_l4 110 k1 5000 x2 M) (pM f) :=
  sX3_reckonCosts_l4_n hk1  5000 _ M h_M hx2    hmu
set_option maxHeartbeats 2000000 in
theorem sX3_reckonCosts {f : Bx} {k1 : Nat} {M : Mem} (hk1 : isP k1) (h_M : OKb f M) : Sf (mX3_reckonCosts 110 k1 M) (pM f) := by
  unfold mX3_reckonCosts
  have n_1 : ((255 : Int32)).toInt = 255 := rfl
  exact (sX3_reckonCosts_l4 hk1 h_M ⟨by omega, by omega⟩ (by omega))
set_option maxHeartbeats 2000000 in
theorem sX3_smallestStep_b3 {f : Bx} {k1 : Nat} {M : Mem} {ih3 : Int32 → Int32 → Int32 → Int32 → Int32 → Option Int32} {x2 : Int32} {x3 : Int32} {x4 : Int32} {x5 : Int32} {x6 : Int32} {d3 : Nat} (hk1 : isP k1) (h_M : OKb f M) (hx2 : (0 : Int) ≤ (x2).toInt ∧ (x2).toInt ≤ 255) (hx3 : (-1 : Int) ≤ (x3).toInt ∧ (x3).toInt ≤ 15) (hx6 : (0 : Int) ≤ (x6).toInt ∧ (x6).toInt ≤ 16) (hih3 : ∀ (yx2 : Int32) (yx3 : Int32) (yx4 : Int32) (yx5 : Int32) (yx6 : Int32), ((0 : Int) ≤ (yx2).toInt ∧ (yx2).toInt ≤ 255) → ((-1 : Int) ≤ (yx3).toInt ∧ (yx3).toInt ≤ 15) → ((0 : Int) ≤ (yx6).toInt ∧ (yx6).toInt ≤ 16) → 16 - (yx6).toInt < d3 → Sf (ih3 yx2 yx3 yx4 yx5 yx6) (pI (-1) (15))) (hmu3 : 16 - (x6).toInt ≤ d3) : Sf (mX3_smallestStep_b3 110 k1 M ih3 x2 x3 x4 x5 x6) (pI (-1) (15)) := by
  unfold mX3_smallestStep_b3
  have n_1 : ((16 : Int32)).toInt = 16 := rfl
  refine Sf.i (fun c_2 => ?_) (fun c_2 => ?_)
  · have c_2 := i_le.mp c_2
    have n_3 : (((-1) : Int32)).toInt = -1 := rfl
    have z_4 : (-1 : Int) ≤ (((-1) : Int32)).toInt ∧ (((-1) : Int32)).toInt ≤ 15 := ⟨by omega, by omega⟩
    exact Sf.ok z_4
  · have c_2 := i_nle c_2
    have n_5 : ((1 : Int32)).toInt = 1 := rfl
    refine Sf.c (sX3_costThrough hk1 h_M ⟨by omega, by omega⟩ ⟨by omega, by omega⟩ ⟨by omega, by omega⟩ ⟨by omega, by omega⟩) (fun r3 p_6 => ?_)
    obtain ⟨p_6a, p_6b⟩ := p_6
    refine Sf.i (fun c_7 => ?_) (fun c_7 => ?_)
    · have c_7 := i_eq.mp c_7
      have z_8 : (-1 : Int) ≤ (x6).toInt ∧ (x6).toInt ≤ 15 := ⟨by omega, by omega⟩
      exact Sf.ok z_8
    · have c_7 := i_ne c_7
      try have a_9 : ((x6 + (1 : Int32))).toInt = (x6).toInt + ((1 : Int32)).toInt := i_add (by omega) (by omega)
      refine Sf.b (fun x6_30 e_x6_30 => ?_)
      have d_x6_30 := congrArg Int32.toInt e_x6_30
      exact (hih3 _ _ _ _ _ ⟨by omega, by omega⟩ ⟨by omega, by omega⟩ ⟨by omega, by omega⟩ (by omega))
theorem sX3_smallestStep_l3_n {f : Bx} {k1 : Nat} (hk1 : isP k1) {M : Mem}  (h_M : OKb f M)   : ∀ (n : Nat) (x2 : Int32) (x3 : Int32) (x4 : Int32) (x5 : Int32) (x6 : Int32) (hx2 : (0 : Int) ≤ (x2).toInt ∧ (x2).toInt ≤ 255) (hx3 : (-1 : Int) ≤ (x3).toInt ∧ (x3).toInt ≤ 15) (hx6 : (0 : Int) ≤ (x6).toInt ∧ (x6).toInt ≤ 16)   (hmu : 16 - (x6).toInt < n), Sf (mX3_smallestStep_l3 110 k1 M n x2 x3 x4 x5 x6) (pI (-1) (15)) := by
  intro n
  induction n with
  | zero => intro x2 x3 x4 x5 x6 hx2 hx3 hx6 hmu; exfalso; omega
  | succ n IH => intro x2 x3 x4 x5 x6 hx2 hx3 hx6 hmu; exact sX3_smallestStep_b3 hk1 h_M hx2 hx3 hx6    IH (by omega)
theorem sX3_smallestStep_l3 {f : Bx} {k1 : Nat} (hk1 : isP k1) {M : Mem} {x2 : Int32} {x3 : Int32} {x4 : Int32} {x5 : Int32} {x6 : Int32}  (h_M : OKb f M) (hx2 : (0 : Int) ≤ (x2).toInt ∧ (x2).toInt ≤ 255) (hx3 : (-1 : Int) ≤ (x3).toInt ∧ (x3).toInt ≤ 15) (hx6 : (0 : Int) ≤ (x6).toInt ∧ (x6).toInt ≤ 16)    (hmu : 16 - (x6).toInt < 5000) : Sf (mX3_smallestStep_l3 110 k1 M 5000 x2 x3 x4 x5 x6) (pI (-1) (15)) :=
  sX3_smallestStep_l3_n hk1 h_M   5000 _ _ _ _ _ hx2 hx3 hx6   hmu
set_option maxHeartbeats 2000000 in
theorem sX3_smallestStep {f : Bx} {k1 : Nat} {x2 : Int32} {x3 : Int32} {x4 : Int32} {x5 : Int32} {M : Mem} (hk1 : isP k1) (h_M : OKb f M) (hx2 : (0 : Int) ≤ (x2).toInt ∧ (x2).toInt ≤ 255) (hx3 : (-1 : Int) ≤ (x3).toInt ∧ (x3).toInt ≤ 15) : Sf (mX3_smallestStep 110 k1 x2 x3 x4 x5 M) (pI (-1) (15)) := by
  unfold mX3_smallestStep
  have n_1 : ((0 : Int32)).toInt = 0 := rfl
  exact (sX3_smallestStep_l3 hk1 h_M ⟨by omega, by omega⟩ ⟨by omega, by omega⟩ ⟨by omega, by omega⟩ (by omega))
set_option maxHeartbeats 2000000 in
theorem sX3_choosePlan_b127 {f : Bx} {k1 : Nat} {ih40 : Int32 → Int32 → Int32 → Int32 → Int32 → Mem → Option (Mem × Unit)} {x2 : Int32} {x3 : Int32} {x4 : Int32} {x5 : Int32} {x6 : Int32} {M : Mem} {d40 : Nat} (hk1 : isP k1) (h_M : OKb f M) (hx2 : (0 : Int) ≤ (x2).toInt ∧ (x2).toInt ≤ 255) (hx3 : (-1 : Int) ≤ (x3).toInt ∧ (x3).toInt ≤ 15) (hx6 : (0 : Int) ≤ (x6).toInt ∧ (x6).toInt ≤ 7) (hih40 : ∀ (yx2 : Int32) (yx3 : Int32) (yx4 : Int32) (yx5 : Int32) (yx6 : Int32) (M : Mem), OKb f M → ((0 : Int) ≤ (yx2).toInt ∧ (yx2).toInt ≤ 255) → ((-1 : Int) ≤ (yx3).toInt ∧ (yx3).toInt ≤ 15) → ((0 : Int) ≤ (yx6).toInt ∧ (yx6).toInt ≤ 8) → 8 - (yx6).toInt < d40 → Sf (ih40 yx2 yx3 yx4 yx5 yx6 M) (pM f)) (hmu40 : 8 - (x6).toInt ≤ d40) : Sf (mX3_choosePlan_b127 110 k1 ih40 x2 x3 x4 x5 x6 M) (pM f) := by
  unfold mX3_choosePlan_b127
  have n_1 : ((1 : Int32)).toInt = 1 := rfl
  try have a_2 : ((x6 + (1 : Int32))).toInt = (x6).toInt + ((1 : Int32)).toInt := i_add (by omega) (by omega)
  refine Sf.b (fun x6_127 e_x6_127 => ?_)
  have d_x6_127 := congrArg Int32.toInt e_x6_127
  exact (hih40 _ _ _ _ _ _ h_M ⟨by omega, by omega⟩ ⟨by omega, by omega⟩ ⟨by omega, by omega⟩ (by omega))
set_option maxHeartbeats 2000000 in
theorem sX3_choosePlan_b40 {f : Bx} {k1 : Nat} {ih40 : Int32 → Int32 → Int32 → Int32 → Int32 → Mem → Option (Mem × Unit)} {x2 : Int32} {x3 : Int32} {x4 : Int32} {x5 : Int32} {x6 : Int32} {M : Mem} {d40 : Nat} (hk1 : isP k1) (h_M : OKb f M) (hx2 : (0 : Int) ≤ (x2).toInt ∧ (x2).toInt ≤ 255) (hx3 : (-1 : Int) ≤ (x3).toInt ∧ (x3).toInt ≤ 15) (hx6 : (0 : Int) ≤ (x6).toInt ∧ (x6).toInt ≤ 8) (hih40 : ∀ (yx2 : Int32) (yx3 : Int32) (yx4 : Int32) (yx5 : Int32) (yx6 : Int32) (M : Mem), OKb f M → ((0 : Int) ≤ (yx2).toInt ∧ (yx2).toInt ≤ 255) → ((-1 : Int) ≤ (yx3).toInt ∧ (yx3).toInt ≤ 15) → ((0 : Int) ≤ (yx6).toInt ∧ (yx6).toInt ≤ 8) → 8 - (yx6).toInt < d40 → Sf (ih40 yx2 yx3 yx4 yx5 yx6 M) (pM f)) (hmu40 : 8 - (x6).toInt ≤ d40) : Sf (mX3_choosePlan_b40 110 k1 ih40 x2 x3 x4 x5 x6 M) (pM f) := by
  unfold mX3_choosePlan_b40
  have n_1 : ((8 : Int32)).toInt = 8 := rfl
  refine Sf.i (fun c_2 => ?_) (fun c_2 => ?_)
  · have c_2 := i_le.mp c_2
    exact Sf.ok h_M
  · have c_2 := i_nle c_2
    have n_3 : (((-1) : Int32)).toInt = -1 := rfl
    refine Sf.i (fun c_4 => ?_) (fun c_4 => ?_)
    · have c_4 := i_eq.mp c_4
      exact Sf.ok h_M
    · have c_4 := i_ne c_4
      refine Sf.c (sX3_smallestStep hk1 h_M ⟨by omega, by omega⟩ ⟨by omega, by omega⟩) (fun r15 p_5 => ?_)
      obtain ⟨p_5a, p_5b⟩ := p_5
      refine Sf.i (fun c_6 => ?_) (fun c_6 => ?_)
      · have c_6 := i_eq.mp c_6
        exact (sX3_choosePlan_b127 hk1 h_M ⟨by omega, by omega⟩ ⟨by omega, by omega⟩ ⟨by omega, by omega⟩ hih40 (by omega))
      · have c_6 := i_ne c_6
        refine Sf.k (ok_in (by omega) (by omega)) ?_
        have z_7 : (0 : Int) ≤ (r15).toInt ∧ (r15).toInt ≤ 15 := ⟨by omega, by omega⟩
        refine Sf.b (fun M21 e_M21 => ?_)
        have h_M21 : OKb f M21 := by rw [e_M21]; exact h_M.put rfl z_7
        have n_8 : ((1 : Int32)).toInt = 1 := rfl
        try have a_9 : ((x6 + (1 : Int32))).toInt = (x6).toInt + ((1 : Int32)).toInt := i_add (by omega) (by omega)
        have z_10 : (-1 : Int) ≤ ((x6 + (1 : Int32))).toInt ∧ ((x6 + (1 : Int32))).toInt ≤ 8 := ⟨by omega, by omega⟩
        refine Sf.b (fun M22 e_M22 => ?_)
        have h_M22 : OKb f M22 := by rw [e_M22]; exact h_M21.put rfl z_10
        have n_11 : ((16 : Int32)).toInt = 16 := rfl
        try have a_12 : ((x2 * (16 : Int32))).toInt = (x2).toInt * 16 := i_mulr (by omega) (by omega) (by omega)
        try have a_13 : (((x2 * (16 : Int32)) + r15)).toInt = ((x2 * (16 : Int32))).toInt + (r15).toInt := i_add (by omega) (by omega)
        refine Sf.k (ok_in (by omega) (by omega)) ?_
        have w_14 : (rd M22 (110 + 20) ((((x2 * (16 : Int32)) + r15)).toNatClampNeg)).toInt = (rd M21 (110 + 20) ((((x2 * (16 : Int32)) + r15)).toNatClampNeg)).toInt := by rw [e_M22, rd_wk (by omega)]
        have w_15 : (rd M21 (110 + 20) ((((x2 * (16 : Int32)) + r15)).toNatClampNeg)).toInt = (rd M (110 + 20) ((((x2 * (16 : Int32)) + r15)).toNatClampNeg)).toInt := by rw [e_M21, rd_wk (by omega)]
        have b_16 : (0 : Int) ≤ (rd M (110 + 20) ((((x2 * (16 : Int32)) + r15)).toNatClampNeg)).toInt ∧ (rd M (110 + 20) ((((x2 * (16 : Int32)) + r15)).toNatClampNeg)).toInt ≤ 2147483647 := h_M.at rfl
        refine Sf.b (fun x4_104 e_x4_104 => ?_)
        have d_x4_104 := congrArg Int32.toInt e_x4_104
        refine Sf.c (sX3_setBehind h_M22 ⟨by omega, by omega⟩ ⟨by omega, by omega⟩) (fun r27 p_17 => ?_)
        obtain ⟨p_17a, p_17b⟩ := p_17
        try have a_18 : ((r27 * (16 : Int32))).toInt = (r27).toInt * 16 := i_mulr (by omega) (by omega) (by omega)
        try have a_19 : (((r27 * (16 : Int32)) + r15)).toInt = ((r27 * (16 : Int32))).toInt + (r15).toInt := i_add (by omega) (by omega)
        refine Sf.k (ok_in (by omega) (by omega)) ?_
        have w_20 : (rd M22 (110 + 21) ((((r27 * (16 : Int32)) + r15)).toNatClampNeg)).toInt = (rd M21 (110 + 21) ((((r27 * (16 : Int32)) + r15)).toNatClampNeg)).toInt := by rw [e_M22, rd_wk (by omega)]
        have w_21 : (rd M21 (110 + 21) ((((r27 * (16 : Int32)) + r15)).toNatClampNeg)).toInt = (rd M (110 + 21) ((((r27 * (16 : Int32)) + r15)).toNatClampNeg)).toInt := by rw [e_M21, rd_wk (by omega)]
        refine Sf.b (fun x5_125 e_x5_125 => ?_)
        have d_x5_125 := congrArg Int32.toInt e_x5_125
        exact (sX3_choosePlan_b127 hk1 h_M22 ⟨by omega, by omega⟩ ⟨by omega, by omega⟩ ⟨by omega, by omega⟩ hih40 (by omega))
theorem sX3_choosePlan_l40_n {f : Bx} {k1 : Nat} (hk1 : isP k1)   : ∀ (n : Nat) (x2 : Int32) (x3 : Int32) (x4 : Int32) (x5 : Int32) (x6 : Int32) (M : Mem) (h_M : OKb f M) (hx2 : (0 : Int) ≤ (x2).toInt ∧ (x2).toInt ≤ 255) (hx3 : (-1 : Int) ≤ (x3).toInt ∧ (x3).toInt ≤ 15) (hx6 : (0 : Int) ≤ (x6).toInt ∧ (x6).toInt ≤ 8)    (hmu : 8 - (x6).toInt < n), Sf (mX3_choosePlan_l40 110 k1 n x2 x3 x4 x5 x6 M) (pM f) := by
  intro n
  induction n with
  | zero => intro x2 x3 x4 x5 x6 M h_M hx2 hx3 hx6 hmu; exfalso; omega
  | succ n IH => intro x2 x3 x4 x5 x6 M h_M hx2 hx3 hx6 hmu; exact sX3_choosePlan_b40 hk1 h_M hx2 hx3 hx6    IH (by omega)
theorem sX3_choosePlan_l40 {f : Bx} {k1 : Nat} (hk1 : isP k1) {x2 : Int32} {x3 : Int32} {x4 : Int32} {x5 : Int32} {x6 : Int32} {M : Mem}  (h_M : OKb f M) (hx2 : (0 : Int) ≤ (x2).toInt ∧ (x2).toInt ≤ 255) (hx3 : (-1 : Int) ≤ (x3).toInt ∧ (x3).toInt ≤ 15) (hx6 : (0 : Int) ≤ (x6).toInt ∧ (x6).toInt ≤ 8)    (hmu : 8 - (x6).toInt < 5000) : Sf (mX3_choosePlan_l40 110 k1 5000 x2 x3 x4 x5 x6 M) (pM f) :=
  sX3_choosePlan_l40_n hk1  5000 _ _ _ _ _ M h_M hx2 hx3 hx6    hmu
set_option maxHeartbeats 2000000 in
theorem sX3_choosePlan_b34 {f : Bx} {k1 : Nat} {x2 : Int32} {x3 : Int32} {x4 : Int32} {x5 : Int32} {y1 : Int32} {M : Mem} (hk1 : isP k1) (h_M : OKb f M) (hx2 : (0 : Int) ≤ (x2).toInt ∧ (x2).toInt ≤ 255) (hx3 : (-1 : Int) ≤ (x3).toInt ∧ (x3).toInt ≤ 15) (hy1 : (-1 : Int) ≤ (y1).toInt ∧ (y1).toInt ≤ 0) : Sf (mX3_choosePlan_b34 110 k1 x2 x3 x4 x5 y1 M) (pM f) := by
  unfold mX3_choosePlan_b34
  have z_1 : (-1 : Int) ≤ (y1).toInt ∧ (y1).toInt ≤ 8 := ⟨by omega, by omega⟩
  refine Sf.b (fun M10 e_M10 => ?_)
  have h_M10 : OKb f M10 := by rw [e_M10]; exact h_M.put rfl z_1
  have n_2 : ((0 : Int32)).toInt = 0 := rfl
  exact (sX3_choosePlan_l40 hk1 h_M10 ⟨by omega, by omega⟩ ⟨by omega, by omega⟩ ⟨by omega, by omega⟩ (by omega))
set_option maxHeartbeats 2000000 in
theorem sX3_choosePlan {f : Bx} {k1 : Nat} {M : Mem} (hk1 : isP k1) (h_M : OKb f M) : Sf (mX3_choosePlan 110 k1 M) (pM f) := by
  unfold mX3_choosePlan
  have b_1 : (0 : Int) ≤ (rd M k1 13).toInt ∧ (rd M k1 13).toInt ≤ 255 := h_M.at (bx_P0 hk1)
  refine Sf.b (fun x2_4 e_x2_4 => ?_)
  have d_x2_4 := congrArg Int32.toInt e_x2_4
  refine Sf.c (sX1_lastCode hk1 h_M) (fun r3 p_2 => ?_)
  obtain ⟨p_2a, p_2b⟩ := p_2
  refine Sf.c (sX1_lastGauge hk1 h_M) (fun r6 p_3 => ?_)
  obtain ⟨p_3a, p_3b⟩ := p_3
  refine Sf.b (fun x5_20 e_x5_20 => ?_)
  have d_x5_20 := congrArg Int32.toInt e_x5_20
  have n_4 : (((-1) : Int32)).toInt = -1 := rfl
  refine Sf.i (fun c_5 => ?_) (fun c_5 => ?_)
  · have c_5 := i_eq.mp c_5
    exact (sX3_choosePlan_b34 hk1 h_M ⟨by omega, by omega⟩ ⟨by omega, by omega⟩ ⟨by omega, by omega⟩)
  · have c_5 := i_ne c_5
    have n_6 : ((0 : Int32)).toInt = 0 := rfl
    exact (sX3_choosePlan_b34 hk1 h_M ⟨by omega, by omega⟩ ⟨by omega, by omega⟩ ⟨by omega, by omega⟩)
set_option maxHeartbeats 2000000 in
theorem sX3_prepare_b30 {f : Bx} {k1 : Nat} {M : Mem} (hk1 : isP k1) (h_M : OKb f M) : Sf (mX3_prepare_b30 110 k1 M) (pM f) := by
  unfold mX3_prepare_b30
  refine Sf.m (sX3_reachSets hk1 h_M) (fun M4 _ h_M4 => ?_)
  have h_M4 : OKb f M4 := h_M4
  refine Sf.m (sX3_countOrders hk1 h_M4) (fun M7 _ h_M7 => ?_)
  have h_M7 : OKb f M7 := h_M7
  refine Sf.m (sX3_reckonCosts hk1 h_M7) (fun M10 _ h_M10 => ?_)
  have h_M10 : OKb f M10 := h_M10
  refine Sf.m (sX3_choosePlan hk1 h_M10) (fun M13 _ h_M13 => ?_)
  have h_M13 : OKb f M13 := h_M13
  have n_5 : ((1 : Int32)).toInt = 1 := rfl
  have z_6 : (0 : Int) ≤ ((1 : Int32)).toInt ∧ ((1 : Int32)).toInt ≤ 1 := ⟨by omega, by omega⟩
  refine Sf.b (fun M14 e_M14 => ?_)
  have h_M14 : OKb f M14 := by rw [e_M14]; exact h_M13.put rfl z_6
  exact Sf.ok h_M14
set_option maxHeartbeats 2000000 in
theorem sX3_prepare {f : Bx} {k1 : Nat} {M : Mem} (hk1 : isP k1) (h_M : OKb f M) : Sf (mX3_prepare 110 k1 M) (pM f) := by
  unfold mX3_prepare
  have b_1 : (0 : Int) ≤ (rd M 110 6).toInt ∧ (rd M 110 6).toInt ≤ 1 := h_M.at rfl
  have n_2 : ((0 : Int32)).toInt = 0 := rfl
  refine Sf.i (fun c_3 => ?_) (fun c_3 => ?_)
  · have c_3 := i_eq.mp c_3
    exact (sX3_prepare_b30 hk1 h_M)
  · have c_3 := i_ne c_3
    refine Sf.c (sX1_bendsLike hk1 isP_119 h_M) (fun r17 p_4 => ?_)
    obtain ⟨p_4a, p_4b⟩ := p_4
    refine Sf.i (fun c_5 => ?_) (fun c_5 => ?_)
    · have c_5 := i_eq.mp c_5
      exact (sX3_prepare_b30 hk1 h_M)
    · have c_5 := i_ne c_5
      refine Sf.c (sX1_goesOnLike hk1 isP_119 h_M) (fun r21 p_6 => ?_)
      obtain ⟨p_6a, p_6b⟩ := p_6
      refine Sf.i (fun c_7 => ?_) (fun c_7 => ?_)
      · have c_7 := i_eq.mp c_7
        exact (sX3_prepare_b30 hk1 h_M)
      · have c_7 := i_ne c_7
        exact Sf.ok h_M
set_option maxHeartbeats 2000000 in
theorem sX3_reachesAll {f : Bx} {k1 : Nat} {M : Mem} (hk1 : isP k1) (h_M : OKb f M) : Sf (mX3_reachesAll 110 k1 M) (pMI f (0) (1)) := by
  unfold mX3_reachesAll
  refine Sf.m (sX3_reachSets hk1 h_M) (fun M3 _ h_M3 => ?_)
  have h_M3 : OKb f M3 := h_M3
  refine Sf.c (sX1_allBends hk1 h_M3) (fun r5 p_2 => ?_)
  obtain ⟨p_2a, p_2b⟩ := p_2
  refine Sf.k (ok_in (by omega) (by omega)) ?_
  have b_3 : (0 : Int) ≤ (rd M3 (110 + 18) ((r5).toNatClampNeg)).toInt ∧ (rd M3 (110 + 18) ((r5).toNatClampNeg)).toInt ≤ 1 := h_M3.at rfl
  refine Sf.k (isB_in ⟨by omega, by omega⟩) ?_
  have z_4 : (0 : Int) ≤ ((rd M3 (110 + 18) ((r5).toNatClampNeg))).toInt ∧ ((rd M3 (110 + 18) ((r5).toNatClampNeg))).toInt ≤ 1 := ⟨by omega, by omega⟩
  exact Sf.ok ⟨h_M3, z_4⟩
set_option maxHeartbeats 2000000 in
theorem sX3_ordersFrom_b25 {f : Bx} {M : Mem} {x1 : Int32} {y0 : Int32} (h_M : OKb f M) (hx1 : (0 : Int) ≤ (x1).toInt ∧ (x1).toInt ≤ 255) (hy0 : (0 : Int) ≤ (y0).toInt ∧ (y0).toInt ≤ 1) : Sf (mX3_ordersFrom_b25 110 M x1 y0) (pL) := by
  unfold mX3_ordersFrom_b25
  have n_1 : ((0 : Int32)).toInt = 0 := rfl
  refine Sf.i (fun c_2 => ?_) (fun c_2 => ?_)
  · have c_2 := i_eq.mp c_2
    exact Sf.ok trivial
  · have c_2 := i_ne c_2
    refine Sf.k (ok_in (by omega) (by omega)) ?_
    exact Sf.ok trivial
set_option maxHeartbeats 2000000 in
theorem sX3_ordersFrom_b24 {f : Bx} {M : Mem} {x1 : Int32} (h_M : OKb f M) (hx1 : (0 : Int) ≤ (x1).toInt ∧ (x1).toInt ≤ 255) : Sf (mX3_ordersFrom_b24 110 M x1) (pL) := by
  unfold mX3_ordersFrom_b24
  have n_1 : ((0 : Int32)).toInt = 0 := rfl
  exact (sX3_ordersFrom_b25 h_M ⟨by omega, by omega⟩ ⟨by omega, by omega⟩)
set_option maxHeartbeats 2000000 in
theorem sX3_ordersFrom {f : Bx} {x1 : Int32} {M : Mem} (h_M : OKb f M) (hx1 : (0 : Int) ≤ (x1).toInt ∧ (x1).toInt ≤ 255) : Sf (mX3_ordersFrom 110 x1 M) (pL) := by
  unfold mX3_ordersFrom
  have n_1 : ((0 : Int32)).toInt = 0 := rfl
  refine Sf.i (fun c_2 => ?_) (fun c_2 => ?_)
  · have c_2 := i_lt.mp c_2
    exfalso; omega
  · have c_2 := i_nlt c_2
    have n_3 : ((256 : Int32)).toInt = 256 := rfl
    refine Sf.i (fun c_4 => ?_) (fun c_4 => ?_)
    · have c_4 := i_le.mp c_4
      exfalso; omega
    · have c_4 := i_nle c_4
      refine Sf.k (ok_in (by omega) (by omega)) ?_
      have b_5 : (0 : Int) ≤ (rd M (110 + 18) ((x1).toNatClampNeg)).toInt ∧ (rd M (110 + 18) ((x1).toNatClampNeg)).toInt ≤ 1 := h_M.at rfl
      refine Sf.i (fun c_6 => ?_) (fun c_6 => ?_)
      · have c_6 := i_eq.mp c_6
        exact (sX3_ordersFrom_b24 h_M ⟨by omega, by omega⟩)
      · have c_6 := i_ne c_6
        have n_7 : ((1 : Int32)).toInt = 1 := rfl
        exact (sX3_ordersFrom_b25 h_M ⟨by omega, by omega⟩ ⟨by omega, by omega⟩)
set_option maxHeartbeats 2000000 in
theorem sX3_stepsAtTheEnd_b68 {f : Bx} {k1 : Nat} {M : Mem} {ih10 : Int32 → Int32 → Int32 → Option Int32} {x2 : Int32} {x3 : Int32} {x4 : Int32} {d10 : Nat} (hk1 : isP k1) (h_M : OKb f M) (hx2 : (0 : Int) ≤ (x2).toInt ∧ (x2).toInt ≤ 255) (hx4 : (0 : Int) ≤ (x4).toInt ∧ (x4).toInt ≤ 7) (hih10 : ∀ (yx2 : Int32) (yx3 : Int32) (yx4 : Int32), ((0 : Int) ≤ (yx2).toInt ∧ (yx2).toInt ≤ 255) → ((0 : Int) ≤ (yx4).toInt ∧ (yx4).toInt ≤ 8) → 8 - (yx4).toInt < d10 → Sf (ih10 yx2 yx3 yx4) (pI (-2147483648) (2147483647))) (hmu10 : 8 - (x4).toInt ≤ d10) : Sf (mX3_stepsAtTheEnd_b68 110 k1 M ih10 x2 x3 x4) (pI (-2147483648) (2147483647)) := by
  unfold mX3_stepsAtTheEnd_b68
  have n_1 : ((1 : Int32)).toInt = 1 := rfl
  try have a_2 : ((x4 + (1 : Int32))).toInt = (x4).toInt + ((1 : Int32)).toInt := i_add (by omega) (by omega)
  refine Sf.b (fun x4_68 e_x4_68 => ?_)
  have d_x4_68 := congrArg Int32.toInt e_x4_68
  exact (hih10 _ _ _ ⟨by omega, by omega⟩ ⟨by omega, by omega⟩ (by omega))
set_option maxHeartbeats 2000000 in
theorem sX3_stepsAtTheEnd_b10 {f : Bx} {k1 : Nat} {M : Mem} {ih10 : Int32 → Int32 → Int32 → Option Int32} {x2 : Int32} {x3 : Int32} {x4 : Int32} {d10 : Nat} (hk1 : isP k1) (h_M : OKb f M) (hx2 : (0 : Int) ≤ (x2).toInt ∧ (x2).toInt ≤ 255) (hx4 : (0 : Int) ≤ (x4).toInt ∧ (x4).toInt ≤ 8) (hih10 : ∀ (yx2 : Int32) (yx3 : Int32) (yx4 : Int32), ((0 : Int) ≤ (yx2).toInt ∧ (yx2).toInt ≤ 255) → ((0 : Int) ≤ (yx4).toInt ∧ (yx4).toInt ≤ 8) → 8 - (yx4).toInt < d10 → Sf (ih10 yx2 yx3 yx4) (pI (-2147483648) (2147483647))) (hmu10 : 8 - (x4).toInt ≤ d10) : Sf (mX3_stepsAtTheEnd_b10 110 k1 M ih10 x2 x3 x4) (pI (-2147483648) (2147483647)) := by
  unfold mX3_stepsAtTheEnd_b10
  refine Sf.c (sX1_bendCount hk1 h_M) (fun r5 p_1 => ?_)
  obtain ⟨p_1a, p_1b⟩ := p_1
  refine Sf.i (fun c_2 => ?_) (fun c_2 => ?_)
  · have c_2 := i_le.mp c_2
    exact Sf.ok (i_rng _)
  · have c_2 := i_nle c_2
    have n_3 : ((8 : Int32)).toInt = 8 := rfl
    refine Sf.i (fun c_4 => ?_) (fun c_4 => ?_)
    · have c_4 := i_le.mp c_4
      exfalso; omega
    · have c_4 := i_nle c_4
      try have a_5 : 0 < (((1 : Int32) <<< (x4 &&& 31))).toInt ∧ (((1 : Int32) <<< (x4 &&& 31))).toInt ≤ 128 := i_shl 7 (by decide) ⟨by omega, by omega⟩
      have n_6 : (((-1) : Int32)).toInt = -1 := rfl
      try have a_7 := i_and (a := x2) (b := (((1 : Int32) <<< (x4 &&& 31)) ^^^ ((-1) : Int32))) (by omega)
      refine Sf.b (fun x5_34 e_x5_34 => ?_)
      have d_x5_34 := congrArg Int32.toInt e_x5_34
      have b_8 : (0 : Int) ≤ (rd M k1 13).toInt ∧ (rd M k1 13).toInt ≤ 255 := h_M.at (bx_P0 hk1)
      try have a_9 := i_shr (a := (rd M k1 13)) (b := x4) (by omega)
      have n_10 : ((1 : Int32)).toInt = 1 := rfl
      try have a_11 := i_and (a := ((rd M k1 13) >>> (x4 &&& 31))) (b := (1 : Int32)) (by omega)
      try have a_12 := i_andr (a := ((rd M k1 13) >>> (x4 &&& 31))) (b := (1 : Int32)) (by omega)
      have n_13 : ((0 : Int32)).toInt = 0 := rfl
      refine Sf.i (fun c_14 => ?_) (fun c_14 => ?_)
      · have c_14 := i_eq.mp c_14
        refine Sf.k (ok_in (by omega) (by omega)) ?_
        have b_15 : (0 : Int) ≤ (rd M (110 + 18) ((x5_34).toNatClampNeg)).toInt ∧ (rd M (110 + 18) ((x5_34).toNatClampNeg)).toInt ≤ 1 := h_M.at rfl
        refine Sf.i (fun c_16 => ?_) (fun c_16 => ?_)
        · have c_16 := i_eq.mp c_16
          exact (sX3_stepsAtTheEnd_b68 hk1 h_M ⟨by omega, by omega⟩ ⟨by omega, by omega⟩ hih10 (by omega))
        · have c_16 := i_ne c_16
          refine Sf.k (ok_in (by omega) (by omega)) ?_
          have b_17 : (-1 : Int) ≤ (rd M (110 + 17) ((x5_34).toNatClampNeg)).toInt ∧ (rd M (110 + 17) ((x5_34).toNatClampNeg)).toInt ≤ 2147483647 := h_M.at rfl
          refine Sf.b (fun x3_67 e_x3_67 => ?_)
          have d_x3_67 := congrArg Int32.toInt e_x3_67
          exact (sX3_stepsAtTheEnd_b68 hk1 h_M ⟨by omega, by omega⟩ ⟨by omega, by omega⟩ hih10 (by omega))
      · have c_14 := i_ne c_14
        exact (sX3_stepsAtTheEnd_b68 hk1 h_M ⟨by omega, by omega⟩ ⟨by omega, by omega⟩ hih10 (by omega))
theorem sX3_stepsAtTheEnd_l10_n {f : Bx} {k1 : Nat} (hk1 : isP k1) {M : Mem}  (h_M : OKb f M)   : ∀ (n : Nat) (x2 : Int32) (x3 : Int32) (x4 : Int32) (hx2 : (0 : Int) ≤ (x2).toInt ∧ (x2).toInt ≤ 255) (hx4 : (0 : Int) ≤ (x4).toInt ∧ (x4).toInt ≤ 8)   (hmu : 8 - (x4).toInt < n), Sf (mX3_stepsAtTheEnd_l10 110 k1 M n x2 x3 x4) (pI (-2147483648) (2147483647)) := by
  intro n
  induction n with
  | zero => intro x2 x3 x4 hx2 hx4 hmu; exfalso; omega
  | succ n IH => intro x2 x3 x4 hx2 hx4 hmu; exact sX3_stepsAtTheEnd_b10 hk1 h_M hx2 hx4    IH (by omega)
theorem sX3_stepsAtTheEnd_l10 {f : Bx} {k1 : Nat} (hk1 : isP k1) {M : Mem} {x2 : Int32} {x3 : Int32} {x4 : Int32}  (h_M : OKb f M) (hx2 : (0 : Int) ≤ (x2).toInt ∧ (x2).toInt ≤ 255) (hx4 : (0 : Int) ≤ (x4).toInt ∧ (x4).toInt ≤ 8)    (hmu : 8 - (x4).toInt < 5000) : Sf (mX3_stepsAtTheEnd_l10 110 k1 M 5000 x2 x3 x4) (pI (-2147483648) (2147483647)) :=
  sX3_stepsAtTheEnd_l10_n hk1 h_M   5000 _ _ _ hx2 hx4   hmu
set_option maxHeartbeats 2000000 in
theorem sX3_stepsAtTheEnd {f : Bx} {k1 : Nat} {M : Mem} (hk1 : isP k1) (h_M : OKb f M) : Sf (mX3_stepsAtTheEnd 110 k1 M) (pI (-2147483648) (2147483647)) := by
  unfold mX3_stepsAtTheEnd
  refine Sf.c (sX1_allBends hk1 h_M) (fun r2 p_1 => ?_)
  obtain ⟨p_1a, p_1b⟩ := p_1
  have n_2 : ((0 : Int32)).toInt = 0 := rfl
  exact (sX3_stepsAtTheEnd_l10 hk1 h_M ⟨by omega, by omega⟩ ⟨by omega, by omega⟩ (by omega))
set_option maxHeartbeats 2000000 in
theorem sX3_mostBendsFrom_b29 {f : Bx} {k1 : Nat} {M : Mem} {ih4 : Int32 → Int32 → Option Int32} {x2 : Int32} {x3 : Int32} {d4 : Nat} (hk1 : isP k1) (h_M : OKb f M) (hx2 : (0 : Int) ≤ (x2).toInt ∧ (x2).toInt ≤ 63) (hx3 : (0 : Int) ≤ (x3).toInt ∧ (x3).toInt ≤ 255) (hih4 : ∀ (yx2 : Int32) (yx3 : Int32), ((0 : Int) ≤ (yx2).toInt ∧ (yx2).toInt ≤ 63) → ((0 : Int) ≤ (yx3).toInt ∧ (yx3).toInt ≤ 256) → 256 - (yx3).toInt < d4 → Sf (ih4 yx2 yx3) (pI (-63) (63))) (hmu4 : 256 - (x3).toInt ≤ d4) : Sf (mX3_mostBendsFrom_b29 110 k1 M ih4 x2 x3) (pI (-63) (63)) := by
  unfold mX3_mostBendsFrom_b29
  have n_1 : ((1 : Int32)).toInt = 1 := rfl
  try have a_2 : ((x3 + (1 : Int32))).toInt = (x3).toInt + ((1 : Int32)).toInt := i_add (by omega) (by omega)
  refine Sf.b (fun x3_29 e_x3_29 => ?_)
  have d_x3_29 := congrArg Int32.toInt e_x3_29
  exact (hih4 _ _ ⟨by omega, by omega⟩ ⟨by omega, by omega⟩ (by omega))
set_option maxHeartbeats 2000000 in
theorem sX3_mostBendsFrom_b4 {f : Bx} {k1 : Nat} {M : Mem} {ih4 : Int32 → Int32 → Option Int32} {x2 : Int32} {x3 : Int32} {d4 : Nat} (hk1 : isP k1) (h_M : OKb f M) (hx2 : (0 : Int) ≤ (x2).toInt ∧ (x2).toInt ≤ 63) (hx3 : (0 : Int) ≤ (x3).toInt ∧ (x3).toInt ≤ 256) (hih4 : ∀ (yx2 : Int32) (yx3 : Int32), ((0 : Int) ≤ (yx2).toInt ∧ (yx2).toInt ≤ 63) → ((0 : Int) ≤ (yx3).toInt ∧ (yx3).toInt ≤ 256) → 256 - (yx3).toInt < d4 → Sf (ih4 yx2 yx3) (pI (-63) (63))) (hmu4 : 256 - (x3).toInt ≤ d4) : Sf (mX3_mostBendsFrom_b4 110 k1 M ih4 x2 x3) (pI (-63) (63)) := by
  unfold mX3_mostBendsFrom_b4
  have n_1 : ((256 : Int32)).toInt = 256 := rfl
  refine Sf.i (fun c_2 => ?_) (fun c_2 => ?_)
  · have c_2 := i_le.mp c_2
    have b_3 : (0 : Int) ≤ (rd M k1 13).toInt ∧ (rd M k1 13).toInt ≤ 255 := h_M.at (bx_P0 hk1)
    refine Sf.c (sJ6_bitCount_0f7a4 h_M ⟨by omega, by omega⟩) (fun r3 p_4 => ?_)
    obtain ⟨p_4a, p_4b⟩ := p_4
    try have a_5 : ((x2 - r3)).toInt = (x2).toInt - (r3).toInt := i_sub (by omega) (by omega)
    have z_6 : (-63 : Int) ≤ ((x2 - r3)).toInt ∧ ((x2 - r3)).toInt ≤ 63 := ⟨by omega, by omega⟩
    exact Sf.ok z_6
  · have c_2 := i_nle c_2
    refine Sf.k (ok_in (by omega) (by omega)) ?_
    have b_7 : (0 : Int) ≤ (rd M (110 + 18) ((x3).toNatClampNeg)).toInt ∧ (rd M (110 + 18) ((x3).toNatClampNeg)).toInt ≤ 1 := h_M.at rfl
    have n_8 : ((0 : Int32)).toInt = 0 := rfl
    refine Sf.i (fun c_9 => ?_) (fun c_9 => ?_)
    · have c_9 := i_eq.mp c_9
      exact (sX3_mostBendsFrom_b29 hk1 h_M ⟨by omega, by omega⟩ ⟨by omega, by omega⟩ hih4 (by omega))
    · have c_9 := i_ne c_9
      refine Sf.c (sJ6_bitCount_0f7a4 h_M ⟨by omega, by omega⟩) (fun r9 p_10 => ?_)
      obtain ⟨p_10a, p_10b⟩ := p_10
      have m_11 := i_max (a := x2) (b := r9)
      refine Sf.b (fun x2_28 e_x2_28 => ?_)
      have d_x2_28 := congrArg Int32.toInt e_x2_28
      exact (sX3_mostBendsFrom_b29 hk1 h_M ⟨by omega, by omega⟩ ⟨by omega, by omega⟩ hih4 (by omega))
theorem sX3_mostBendsFrom_l4_n {f : Bx} {k1 : Nat} (hk1 : isP k1) {M : Mem}  (h_M : OKb f M)   : ∀ (n : Nat) (x2 : Int32) (x3 : Int32) (hx2 : (0 : Int) ≤ (x2).toInt ∧ (x2).toInt ≤ 63) (hx3 : (0 : Int) ≤ (x3).toInt ∧ (x3).toInt ≤ 256)   (hmu : 256 - (x3).toInt < n), Sf (mX3_mostBendsFrom_l4 110 k1 M n x2 x3) (pI (-63) (63)) := by
  intro n
  induction n with
  | zero => intro x2 x3 hx2 hx3 hmu; exfalso; omega
  | succ n IH => intro x2 x3 hx2 hx3 hmu; exact sX3_mostBendsFrom_b4 hk1 h_M hx2 hx3    IH (by omega)
theorem sX3_mostBendsFrom_l4 {f : Bx} {k1 : Nat} (hk1 : isP k1) {M : Mem} {x2 : Int32} {x3 : Int32}  (h_M : OKb f M) (hx2 : (0 : Int) ≤ (x2).toInt ∧ (x2).toInt ≤ 63) (hx3 : (0 : Int) ≤ (x3).toInt ∧ (x3).toInt ≤ 256)    (hmu : 256 - (x3).toInt < 5000) : Sf (mX3_mostBendsFrom_l4 110 k1 M 5000 x2 x3) (pI (-63) (63)) :=
  sX3_mostBendsFrom_l4_n hk1 h_M   5000 _ _ hx2 hx3   hmu
set_option maxHeartbeats 2000000 in
theorem sX3_mostBendsFrom {f : Bx} {k1 : Nat} {M : Mem} (hk1 : isP k1) (h_M : OKb f M) : Sf (mX3_mostBendsFrom 110 k1 M) (pI (-63) (63)) := by
  unfold mX3_mostBendsFrom
  have n_1 : ((0 : Int32)).toInt = 0 := rfl
  exact (sX3_mostBendsFrom_l4 hk1 h_M ⟨by omega, by omega⟩ ⟨by omega, by omega⟩ (by omega))
