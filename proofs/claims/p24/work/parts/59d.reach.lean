set_option maxHeartbeats 2000000 in
theorem sX7_layReached_b107 {g : Gm} {ih44 : Int32 → Mem → Option (Mem × Unit)} {x1 : Int32} {M : Mem} {d44 : Nat} (h_M : OKm (w2 g) M) (hx1 : (0 : Int) ≤ (x1).toInt ∧ (x1).toInt ≤ 255) (hih44 : ∀ (yx1 : Int32) (M : Mem), OKm (w2 g) M → ((0 : Int) ≤ (yx1).toInt ∧ (yx1).toInt ≤ 256) → 256 - (yx1).toInt < d44 → Sf (ih44 yx1 M) (qM (w2 g))) (hmu44 : 256 - (x1).toInt ≤ d44) : Sf (mX7_layReached_b107 135 ih44 x1 M) (qM (w2 g)) := by
  unfold mX7_layReached_b107
  have n_1 : ((1 : Int32)).toInt = 1 := rfl
  try have a_2 : ((x1 + (1 : Int32))).toInt = (x1).toInt + ((1 : Int32)).toInt := i_add (by omega) (by omega)
  refine Sf.b (fun x1_107 e_x1_107 => ?_)
  have d_x1_107 := congrArg Int32.toInt e_x1_107
  exact (hih44 _ _ h_M ⟨by omega, by omega⟩ (by omega))
set_option maxHeartbeats 2000000 in
theorem sX7_layReached_b54 {g : Gm} {ih44 : Int32 → Mem → Option (Mem × Unit)} {ih54 : Int32 → Int32 → Mem → Option (Mem × Unit)} {x1 : Int32} {x2 : Int32} {M : Mem} {d44 : Nat} {d54 : Nat} (h_M : OKm (w2 g) M) (hx1 : (0 : Int) ≤ (x1).toInt ∧ (x1).toInt ≤ 255) (hx2 : (0 : Int) ≤ (x2).toInt ∧ (x2).toInt ≤ 16) (hih44 : ∀ (yx1 : Int32) (M : Mem), OKm (w2 g) M → ((0 : Int) ≤ (yx1).toInt ∧ (yx1).toInt ≤ 256) → 256 - (yx1).toInt < d44 → Sf (ih44 yx1 M) (qM (w2 g))) (hmu44 : 256 - (x1).toInt ≤ d44) (hih54 : ∀ (yx1 : Int32) (yx2 : Int32) (M : Mem), OKm (w2 g) M → ((0 : Int) ≤ (yx1).toInt ∧ (yx1).toInt ≤ 255) → ((0 : Int) ≤ (yx2).toInt ∧ (yx2).toInt ≤ 16) → (256 - (yx1).toInt ≤ d44) → 16 - (yx2).toInt < d54 → Sf (ih54 yx1 yx2 M) (qM (w2 g))) (hmu54 : 16 - (x2).toInt ≤ d54) : Sf (mX7_layReached_b54 135 ih44 ih54 x1 x2 M) (qM (w2 g)) := by
  unfold mX7_layReached_b54
  have n_1 : ((0 : Int32)).toInt = 0 := rfl
  refine Sf.k (ok_in (by omega) (by omega)) ?_
  have n_2 : ((2 : Int32)).toInt = 2 := rfl
  have b_3 : (0 : Int) ≤ (rd M (135 + 1) (((0 : Int32)).toNatClampNeg)).toInt ∧ (rd M (135 + 1) (((0 : Int32)).toNatClampNeg)).toInt ≤ 8 := h_M.ri 0 0 (by decide +kernel) (by omega) (by omega)
  try have a_4 : (((2 : Int32) * (rd M (135 + 1) (((0 : Int32)).toNatClampNeg)))).toInt = 2 * ((rd M (135 + 1) (((0 : Int32)).toNatClampNeg))).toInt := i_mulc (by omega) (by omega) (by omega)
  refine Sf.i (fun c_5 => ?_) (fun c_5 => ?_)
  · have c_5 := i_le.mp c_5
    exact (sX7_layReached_b107 h_M ⟨by omega, by omega⟩ hih44 (by omega))
  · have c_5 := i_nle c_5
    refine Sf.k (ok_in (by omega) (by omega)) ?_
    have b_6 : (0 : Int) ≤ (rd M (135 + 15) ((x1).toNatClampNeg)).toInt ∧ (rd M (135 + 15) ((x1).toNatClampNeg)).toInt ≤ 1 := h_M.at rfl
    have n_7 : ((0 : Int32)).toInt = 0 := rfl
    refine Sf.i (fun c_8 => ?_) (fun c_8 => ?_)
    · have c_8 := i_eq.mp c_8
      exact (sX7_layReached_b107 h_M ⟨by omega, by omega⟩ hih44 (by omega))
    · have c_8 := i_ne c_8
      try have a_9 : ((x2 / (2 : Int32))).toInt = (x2).toInt / 2 := (i_div (by omega) (by omega)).trans (by rw [show ((2 : Int32)).toInt = 2 from rfl])
      try have a_10 : 0 < (((1 : Int32) <<< ((x2 / (2 : Int32)) &&& 31))).toInt ∧ (((1 : Int32) <<< ((x2 / (2 : Int32)) &&& 31))).toInt ≤ 128 := i_shl 7 (by decide) ⟨by omega, by omega⟩
      try have a_11 : 0 ≤ ((x1 ||| ((1 : Int32) <<< ((x2 / (2 : Int32)) &&& 31)))).toInt ∧ ((x1 ||| ((1 : Int32) <<< ((x2 / (2 : Int32)) &&& 31)))).toInt < 256 := i_or 8 (by decide) ⟨by omega, by omega⟩ ⟨by omega, by omega⟩
      refine Sf.k (ok_in (by omega) (by omega)) ?_
      have n_12 : ((16 : Int32)).toInt = 16 := rfl
      try have a_13 : (((16 : Int32) * x1)).toInt = 16 * (x1).toInt := i_mulc (by omega) (by omega) (by omega)
      try have a_14 : ((((16 : Int32) * x1) + x2)).toInt = (((16 : Int32) * x1)).toInt + (x2).toInt := i_add (by omega) (by omega)
      refine Sf.k (ok_in (by omega) (by omega)) ?_
      refine Sf.k (ok_in (by omega) (by omega)) ?_
      have v_15 := nar_boolean (x := ((rd M (135 + 15) (((x1 ||| ((1 : Int32) <<< ((x2 / (2 : Int32)) &&& 31)))).toNatClampNeg)) ||| (rd M (135 + 10) (((((16 : Int32) * x1) + x2)).toNatClampNeg))))
      have z_16 : (0 : Int) ≤ ((vp_nar .boolean ((rd M (135 + 15) (((x1 ||| ((1 : Int32) <<< ((x2 / (2 : Int32)) &&& 31)))).toNatClampNeg)) ||| (rd M (135 + 10) (((((16 : Int32) * x1) + x2)).toNatClampNeg))))).toInt ∧ ((vp_nar .boolean ((rd M (135 + 15) (((x1 ||| ((1 : Int32) <<< ((x2 / (2 : Int32)) &&& 31)))).toNatClampNeg)) ||| (rd M (135 + 10) (((((16 : Int32) * x1) + x2)).toNatClampNeg))))).toInt ≤ 1 := ⟨by omega, by omega⟩
      refine Sf.b (fun M21 e_M21 => ?_)
      have h_M21 : OKm (w2 g) M21 := by rw [e_M21]; exact h_M.put rfl z_16
      have n_17 : ((1 : Int32)).toInt = 1 := rfl
      try have a_18 : ((x2 + (1 : Int32))).toInt = (x2).toInt + ((1 : Int32)).toInt := i_add (by omega) (by omega)
      refine Sf.b (fun x2_101 e_x2_101 => ?_)
      have d_x2_101 := congrArg Int32.toInt e_x2_101
      exact (hih54 _ _ _ h_M21 ⟨by omega, by omega⟩ ⟨by omega, by omega⟩ (by omega) (by omega))
theorem sX7_layReached_l54_n {g : Gm}  {ih44 : Int32 → Mem → Option (Mem × Unit)} {d44 : Nat} (hih44 : ∀ (yx1 : Int32) (M : Mem), OKm (w2 g) M → ((0 : Int) ≤ (yx1).toInt ∧ (yx1).toInt ≤ 256) → 256 - (yx1).toInt < d44 → Sf (ih44 yx1 M) (qM (w2 g))) : ∀ (n : Nat) (x1 : Int32) (x2 : Int32) (M : Mem) (h_M : OKm (w2 g) M) (hx1 : (0 : Int) ≤ (x1).toInt ∧ (x1).toInt ≤ 255) (hx2 : (0 : Int) ≤ (x2).toInt ∧ (x2).toInt ≤ 16)   (hmu44 : 256 - (x1).toInt ≤ d44) (hmu : 16 - (x2).toInt < n), Sf (mX7_layReached_l54 135 ih44 n x1 x2 M) (qM (w2 g)) := by
  intro n
  induction n with
  | zero => intro x1 x2 M h_M hx1 hx2 hmu44 hmu; exfalso; omega
  | succ n IH => intro x1 x2 M h_M hx1 hx2 hmu44 hmu; exact sX7_layReached_b54  h_M hx1 hx2   hih44 hmu44 IH (by omega)
theorem sX7_layReached_l54 {g : Gm}  {x1 : Int32} {x2 : Int32} {M : Mem} {ih44 : Int32 → Mem → Option (Mem × Unit)} {d44 : Nat} (h_M : OKm (w2 g) M) (hx1 : (0 : Int) ≤ (x1).toInt ∧ (x1).toInt ≤ 255) (hx2 : (0 : Int) ≤ (x2).toInt ∧ (x2).toInt ≤ 16)   (hih44 : ∀ (yx1 : Int32) (M : Mem), OKm (w2 g) M → ((0 : Int) ≤ (yx1).toInt ∧ (yx1).toInt ≤ 256) → 256 - (yx1).toInt < d44 → Sf (ih44 yx1 M) (qM (w2 g))) (hmu44 : 256 - (x1).toInt ≤ d44) (hmu : 16 - (x2).toInt < 5000) : Sf (mX7_layReached_l54 135 ih44 5000 x1 x2 M) (qM (w2 g)) :=
  sX7_layReached_l54_n  hih44 5000 _ _ M h_M hx1 hx2   hmu44 hmu
set_option maxHeartbeats 2000000 in
theorem sX7_layReached_b44 {g : Gm} {ih44 : Int32 → Mem → Option (Mem × Unit)} {x1 : Int32} {M : Mem} {d44 : Nat} (h_M : OKm (w2 g) M) (hx1 : (0 : Int) ≤ (x1).toInt ∧ (x1).toInt ≤ 256) (hih44 : ∀ (yx1 : Int32) (M : Mem), OKm (w2 g) M → ((0 : Int) ≤ (yx1).toInt ∧ (yx1).toInt ≤ 256) → 256 - (yx1).toInt < d44 → Sf (ih44 yx1 M) (qM (w2 g))) (hmu44 : 256 - (x1).toInt ≤ d44) : Sf (mX7_layReached_b44 135 ih44 x1 M) (qM (w2 g)) := by
  unfold mX7_layReached_b44
  refine Sf.c (sX7_full h_M) (fun r9 p_1 => ?_)
  obtain ⟨p_1a, p_1b⟩ := p_1
  refine Sf.i (fun c_2 => ?_) (fun c_2 => ?_)
  · have c_2 := i_lt.mp c_2
    exact Sf.ok h_M
  · have c_2 := i_nlt c_2
    have n_3 : ((0 : Int32)).toInt = 0 := rfl
    exact (sX7_layReached_l54 h_M ⟨by omega, by omega⟩ ⟨by omega, by omega⟩ hih44 (by omega) (by omega))
theorem sX7_layReached_l44_n {g : Gm}    : ∀ (n : Nat) (x1 : Int32) (M : Mem) (h_M : OKm (w2 g) M) (hx1 : (0 : Int) ≤ (x1).toInt ∧ (x1).toInt ≤ 256)    (hmu : 256 - (x1).toInt < n), Sf (mX7_layReached_l44 135 n x1 M) (qM (w2 g)) := by
  intro n
  induction n with
  | zero => intro x1 M h_M hx1 hmu; exfalso; omega
  | succ n IH => intro x1 M h_M hx1 hmu; exact sX7_layReached_b44  h_M hx1    IH (by omega)
theorem sX7_layReached_l44 {g : Gm}  {x1 : Int32} {M : Mem}  (h_M : OKm (w2 g) M) (hx1 : (0 : Int) ≤ (x1).toInt ∧ (x1).toInt ≤ 256)    (hmu : 256 - (x1).toInt < 5000) : Sf (mX7_layReached_l44 135 5000 x1 M) (qM (w2 g)) :=
  sX7_layReached_l44_n   5000 _ M h_M hx1    hmu
set_option maxHeartbeats 2000000 in
theorem sX7_layReached_b35 {g : Gm} {ih6 : Int32 → Mem → Option (Mem × Unit)} {x1 : Int32} {y1 : Int32} {y2 : Int32} {M : Mem} {d6 : Nat} (h_M : OKm (w2 g) M) (hx1 : (0 : Int) ≤ (x1).toInt ∧ (x1).toInt ≤ 255) (hy1 : (0 : Int) ≤ (y1).toInt ∧ (y1).toInt ≤ 255) (hy2 : (0 : Int) ≤ (y2).toInt ∧ (y2).toInt ≤ 1) (hih6 : ∀ (yx1 : Int32) (M : Mem), OKm (w2 g) M → ((0 : Int) ≤ (yx1).toInt ∧ (yx1).toInt ≤ 256) → 256 - (yx1).toInt < d6 → Sf (ih6 yx1 M) (qM (w2 g))) (hmu6 : 256 - (x1).toInt ≤ d6) : Sf (mX7_layReached_b35 135 ih6 x1 y1 y2 M) (qM (w2 g)) := by
  unfold mX7_layReached_b35
  refine Sf.k (ok_in (by omega) (by omega)) ?_
  have v_1 := nar_boolean (x := y2)
  have z_2 : (0 : Int) ≤ ((vp_nar .boolean y2)).toInt ∧ ((vp_nar .boolean y2)).toInt ≤ 1 := ⟨by omega, by omega⟩
  refine Sf.b (fun M27 e_M27 => ?_)
  have h_M27 : OKm (w2 g) M27 := by rw [e_M27]; exact h_M.put rfl z_2
  have n_3 : ((1 : Int32)).toInt = 1 := rfl
  try have a_4 : ((x1 + (1 : Int32))).toInt = (x1).toInt + ((1 : Int32)).toInt := i_add (by omega) (by omega)
  refine Sf.b (fun x1_36 e_x1_36 => ?_)
  have d_x1_36 := congrArg Int32.toInt e_x1_36
  exact (hih6 _ _ h_M27 ⟨by omega, by omega⟩ (by omega))
set_option maxHeartbeats 2000000 in
theorem sX7_layReached_b6 {g : Gm} {ih6 : Int32 → Mem → Option (Mem × Unit)} {x1 : Int32} {M : Mem} {d6 : Nat} (h_M : OKm (w2 g) M) (hx1 : (0 : Int) ≤ (x1).toInt ∧ (x1).toInt ≤ 256) (hih6 : ∀ (yx1 : Int32) (M : Mem), OKm (w2 g) M → ((0 : Int) ≤ (yx1).toInt ∧ (yx1).toInt ≤ 256) → 256 - (yx1).toInt < d6 → Sf (ih6 yx1 M) (qM (w2 g))) (hmu6 : 256 - (x1).toInt ≤ d6) : Sf (mX7_layReached_b6 135 ih6 x1 M) (qM (w2 g)) := by
  unfold mX7_layReached_b6
  refine Sf.c (sX7_full h_M) (fun r5 p_1 => ?_)
  obtain ⟨p_1a, p_1b⟩ := p_1
  refine Sf.i (fun c_2 => ?_) (fun c_2 => ?_)
  · have c_2 := i_lt.mp c_2
    have n_3 : ((0 : Int32)).toInt = 0 := rfl
    exact (sX7_layReached_l44 h_M ⟨by omega, by omega⟩ (by omega))
  · have c_2 := i_nlt c_2
    have n_4 : ((52 : Int32)).toInt = 52 := rfl
    refine Sf.k (ok_in (by omega) (by omega)) ?_
    have b_5 : (0 : Int) ≤ (rd M (135 + 1) (((52 : Int32)).toNatClampNeg)).toInt ∧ (rd M (135 + 1) (((52 : Int32)).toNatClampNeg)).toInt ≤ 255 := h_M.ri 52 52 (by decide +kernel) (by omega) (by omega)
    refine Sf.i (fun c_6 => ?_) (fun c_6 => ?_)
    · have c_6 := i_eq.mp c_6
      have n_7 : ((1 : Int32)).toInt = 1 := rfl
      exact (sX7_layReached_b35 h_M ⟨by omega, by omega⟩ ⟨by omega, by omega⟩ ⟨by omega, by omega⟩ hih6 (by omega))
    · have c_6 := i_ne c_6
      have n_8 : ((0 : Int32)).toInt = 0 := rfl
      exact (sX7_layReached_b35 h_M ⟨by omega, by omega⟩ ⟨by omega, by omega⟩ ⟨by omega, by omega⟩ hih6 (by omega))
theorem sX7_layReached_l6_n {g : Gm}    : ∀ (n : Nat) (x1 : Int32) (M : Mem) (h_M : OKm (w2 g) M) (hx1 : (0 : Int) ≤ (x1).toInt ∧ (x1).toInt ≤ 256)    (hmu : 256 - (x1).toInt < n), Sf (mX7_layReached_l6 135 n x1 M) (qM (w2 g)) := by
  intro n
  induction n with
  | zero => intro x1 M h_M hx1 hmu; exfalso; omega
  | succ n IH => intro x1 M h_M hx1 hmu; exact sX7_layReached_b6  h_M hx1    IH (by omega)
theorem sX7_layReached_l6 {g : Gm}  {x1 : Int32} {M : Mem}  (h_M : OKm (w2 g) M) (hx1 : (0 : Int) ≤ (x1).toInt ∧ (x1).toInt ≤ 256)    (hmu : 256 - (x1).toInt < 5000) : Sf (mX7_layReached_l6 135 5000 x1 M) (qM (w2 g)) :=
  sX7_layReached_l6_n   5000 _ M h_M hx1    hmu
set_option maxHeartbeats 2000000 in
theorem sX7_lastSteps_b69 {g : Gm} {ih13 : Int32 → Int32 → Mem → Option (Mem × Int32)} {x2 : Int32} {y0 : Int32} {y1 : Int32} {M : Mem} {d13 : Nat} (h_M : OKm (w2 g) M) (hx2 : (0 : Int) ≤ (x2).toInt ∧ (x2).toInt ≤ 15) (hy0 : (0 : Int) ≤ (y0).toInt ∧ (y0).toInt ≤ 2147483647) (hy1 : (0 : Int) ≤ (y1).toInt ∧ (y1).toInt ≤ 89991) (he0 : (1 : Int) ≤ (rd M (135 + 1) ((((0 : Int32)).toNatClampNeg))).toInt ∧ (rd M (135 + 1) ((((0 : Int32)).toNatClampNeg))).toInt ≤ 8) (hih13 : ∀ (yx1 : Int32) (yx2 : Int32) (M : Mem), OKm (w2 g) M → ((0 : Int) ≤ (yx1).toInt ∧ (yx1).toInt ≤ 2147483647) → ((0 : Int) ≤ (yx2).toInt ∧ (yx2).toInt ≤ 16) → 16 - (yx2).toInt < d13 → Sf (ih13 yx1 yx2 M) (qMI (w2 g) (0) (2147483647))) (hmu13 : 16 - (x2).toInt ≤ d13) : Sf (mX7_lastSteps_b69 135 ih13 x2 y0 y1 M) (qMI (w2 g) (0) (2147483647)) := by
  unfold mX7_lastSteps_b69
  try have a_1 : 0 ≤ ((y0 ||| y1)).toInt ∧ ((y0 ||| y1)).toInt < 2147483648 := i_or 31 (by decide) ⟨by omega, by omega⟩ ⟨by omega, by omega⟩
  refine Sf.b (fun x1_70 e_x1_70 => ?_)
  have d_x1_70 := congrArg Int32.toInt e_x1_70
  have n_2 : ((1 : Int32)).toInt = 1 := rfl
  try have a_3 : ((x2 + (1 : Int32))).toInt = (x2).toInt + ((1 : Int32)).toInt := i_add (by omega) (by omega)
  refine Sf.b (fun x2_71 e_x2_71 => ?_)
  have d_x2_71 := congrArg Int32.toInt e_x2_71
  have g_4 := i_rng x1_70
  exact (hih13 _ _ _ h_M ⟨by omega, by omega⟩ ⟨by omega, by omega⟩ (by omega))
set_option maxHeartbeats 2000000 in
theorem sX7_lastSteps_b68 {g : Gm} {ih13 : Int32 → Int32 → Mem → Option (Mem × Int32)} {x2 : Int32} {y0 : Int32} {M : Mem} {d13 : Nat} (h_M : OKm (w2 g) M) (hx2 : (0 : Int) ≤ (x2).toInt ∧ (x2).toInt ≤ 15) (hy0 : (0 : Int) ≤ (y0).toInt ∧ (y0).toInt ≤ 2147483647) (he0 : (1 : Int) ≤ (rd M (135 + 1) ((((0 : Int32)).toNatClampNeg))).toInt ∧ (rd M (135 + 1) ((((0 : Int32)).toNatClampNeg))).toInt ≤ 8) (hih13 : ∀ (yx1 : Int32) (yx2 : Int32) (M : Mem), OKm (w2 g) M → ((0 : Int) ≤ (yx1).toInt ∧ (yx1).toInt ≤ 2147483647) → ((0 : Int) ≤ (yx2).toInt ∧ (yx2).toInt ≤ 16) → 16 - (yx2).toInt < d13 → Sf (ih13 yx1 yx2 M) (qMI (w2 g) (0) (2147483647))) (hmu13 : 16 - (x2).toInt ≤ d13) : Sf (mX7_lastSteps_b68 135 ih13 x2 y0 M) (qMI (w2 g) (0) (2147483647)) := by
  unfold mX7_lastSteps_b68
  have g_1 := i_rng y0
  have n_2 : ((0 : Int32)).toInt = 0 := rfl
  have b_3 : (0 : Int) ≤ (rd M (135 + 1) (((0 : Int32)).toNatClampNeg)).toInt ∧ (rd M (135 + 1) (((0 : Int32)).toNatClampNeg)).toInt ≤ 8 := h_M.ri 0 0 (by decide +kernel) (by omega) (by omega)
  exact (sX7_lastSteps_b69 h_M ⟨by omega, by omega⟩ ⟨by omega, by omega⟩ ⟨by omega, by omega⟩ ⟨by omega, by omega⟩ hih13 (by omega))
set_option maxHeartbeats 2000000 in
theorem sX7_lastSteps_b13 {g : Gm} {ih13 : Int32 → Int32 → Mem → Option (Mem × Int32)} {x1 : Int32} {x2 : Int32} {M : Mem} {d13 : Nat} (h_M : OKm (w2 g) M) (hx1 : (0 : Int) ≤ (x1).toInt ∧ (x1).toInt ≤ 2147483647) (hx2 : (0 : Int) ≤ (x2).toInt ∧ (x2).toInt ≤ 16) (hih13 : ∀ (yx1 : Int32) (yx2 : Int32) (M : Mem), OKm (w2 g) M → ((0 : Int) ≤ (yx1).toInt ∧ (yx1).toInt ≤ 2147483647) → ((0 : Int) ≤ (yx2).toInt ∧ (yx2).toInt ≤ 16) → 16 - (yx2).toInt < d13 → Sf (ih13 yx1 yx2 M) (qMI (w2 g) (0) (2147483647))) (hmu13 : 16 - (x2).toInt ≤ d13) : Sf (mX7_lastSteps_b13 135 ih13 x1 x2 M) (qMI (w2 g) (0) (2147483647)) := by
  unfold mX7_lastSteps_b13
  have n_1 : ((0 : Int32)).toInt = 0 := rfl
  refine Sf.k (ok_in (by omega) (by omega)) ?_
  have n_2 : ((2 : Int32)).toInt = 2 := rfl
  have b_3 : (0 : Int) ≤ (rd M (135 + 1) (((0 : Int32)).toNatClampNeg)).toInt ∧ (rd M (135 + 1) (((0 : Int32)).toNatClampNeg)).toInt ≤ 8 := h_M.ri 0 0 (by decide +kernel) (by omega) (by omega)
  try have a_4 : (((2 : Int32) * (rd M (135 + 1) (((0 : Int32)).toNatClampNeg)))).toInt = 2 * ((rd M (135 + 1) (((0 : Int32)).toNatClampNeg))).toInt := i_mulc (by omega) (by omega) (by omega)
  refine Sf.i (fun c_5 => ?_) (fun c_5 => ?_)
  · have c_5 := i_le.mp c_5
    have z_6 : (0 : Int) ≤ (x1).toInt ∧ (x1).toInt ≤ 2147483647 := ⟨by omega, by omega⟩
    exact Sf.ok ⟨h_M, z_6⟩
  · have c_5 := i_nle c_5
    refine Sf.c (sX7_full h_M) (fun r9 p_7 => ?_)
    obtain ⟨p_7a, p_7b⟩ := p_7
    try have a_8 : ((x2 / (2 : Int32))).toInt = (x2).toInt / 2 := (i_div (by omega) (by omega)).trans (by rw [show ((2 : Int32)).toInt = 2 from rfl])
    try have a_9 : 0 < (((1 : Int32) <<< ((x2 / (2 : Int32)) &&& 31))).toInt ∧ (((1 : Int32) <<< ((x2 / (2 : Int32)) &&& 31))).toInt ≤ 128 := i_shl 7 (by decide) ⟨by omega, by omega⟩
    have n_10 : (((-1) : Int32)).toInt = -1 := rfl
    try have a_11 := i_and (a := r9) (b := (((1 : Int32) <<< ((x2 / (2 : Int32)) &&& 31)) ^^^ ((-1) : Int32))) (by omega)
    refine Sf.b (fun x3_37 e_x3_37 => ?_)
    have d_x3_37 := congrArg Int32.toInt e_x3_37
    refine Sf.k (ok_in (by omega) (by omega)) ?_
    have b_12 : (0 : Int) ≤ (rd M (135 + 15) ((x3_37).toNatClampNeg)).toInt ∧ (rd M (135 + 15) ((x3_37).toNatClampNeg)).toInt ≤ 1 := h_M.at rfl
    have n_13 : ((0 : Int32)).toInt = 0 := rfl
    refine Sf.i (fun c_14 => ?_) (fun c_14 => ?_)
    · have c_14 := i_eq.mp c_14
      have g_15 := i_rng x1
      exact (sX7_lastSteps_b68 h_M ⟨by omega, by omega⟩ ⟨by omega, by omega⟩ ⟨by omega, by omega⟩ hih13 (by omega))
    · have c_14 := i_ne c_14
      have n_16 : ((16 : Int32)).toInt = 16 := rfl
      try have a_17 : (((16 : Int32) * x3_37)).toInt = 16 * (x3_37).toInt := i_mulc (by omega) (by omega) (by omega)
      try have a_18 : ((((16 : Int32) * x3_37) + x2)).toInt = (((16 : Int32) * x3_37)).toInt + (x2).toInt := i_add (by omega) (by omega)
      refine Sf.k (ok_in (by omega) (by omega)) ?_
      have b_19 : (0 : Int) ≤ (rd M (135 + 10) (((((16 : Int32) * x3_37) + x2)).toNatClampNeg)).toInt ∧ (rd M (135 + 10) (((((16 : Int32) * x3_37) + x2)).toNatClampNeg)).toInt ≤ 1 := h_M.at rfl
      refine Sf.i (fun c_20 => ?_) (fun c_20 => ?_)
      · have c_20 := i_eq.mp c_20
        have g_21 := i_rng x1
        exact (sX7_lastSteps_b68 h_M ⟨by omega, by omega⟩ ⟨by omega, by omega⟩ ⟨by omega, by omega⟩ hih13 (by omega))
      · have c_20 := i_ne c_20
        have g_22 := i_rng x1
        try have a_23 : 0 < (((1 : Int32) <<< (x2 &&& 31))).toInt ∧ (((1 : Int32) <<< (x2 &&& 31))).toInt ≤ 32768 := i_shl 15 (by decide) ⟨by omega, by omega⟩
        exact (sX7_lastSteps_b69 h_M ⟨by omega, by omega⟩ ⟨by omega, by omega⟩ ⟨by omega, by omega⟩ ⟨by omega, by omega⟩ hih13 (by omega))
theorem sX7_lastSteps_l13_n {g : Gm}    : ∀ (n : Nat) (x1 : Int32) (x2 : Int32) (M : Mem) (h_M : OKm (w2 g) M) (hx1 : (0 : Int) ≤ (x1).toInt ∧ (x1).toInt ≤ 2147483647) (hx2 : (0 : Int) ≤ (x2).toInt ∧ (x2).toInt ≤ 16)    (hmu : 16 - (x2).toInt < n), Sf (mX7_lastSteps_l13 135 n x1 x2 M) (qMI (w2 g) (0) (2147483647)) := by
  intro n
  induction n with
  | zero => intro x1 x2 M h_M hx1 hx2 hmu; exfalso; omega
  | succ n IH => intro x1 x2 M h_M hx1 hx2 hmu; exact sX7_lastSteps_b13  h_M hx1 hx2    IH (by omega)
theorem sX7_lastSteps_l13 {g : Gm}  {x1 : Int32} {x2 : Int32} {M : Mem}  (h_M : OKm (w2 g) M) (hx1 : (0 : Int) ≤ (x1).toInt ∧ (x1).toInt ≤ 2147483647) (hx2 : (0 : Int) ≤ (x2).toInt ∧ (x2).toInt ≤ 16)    (hmu : 16 - (x2).toInt < 5000) : Sf (mX7_lastSteps_l13 135 5000 x1 x2 M) (qMI (w2 g) (0) (2147483647)) :=
  sX7_lastSteps_l13_n   5000 _ _ M h_M hx1 hx2    hmu
set_option maxHeartbeats 2000000 in
theorem sX7_mostBends_b93 {g : Gm} {ih13 : Int32 → Int32 → Mem → Option (Mem × Int32)} {x2 : Int32} {y0 : Int32} {M : Mem} {d13 : Nat} (h_M : OKm (w2 g) M) (hx2 : (0 : Int) ≤ (x2).toInt ∧ (x2).toInt ≤ 255) (hy0 : (0 : Int) ≤ (y0).toInt ∧ (y0).toInt ≤ 2147483647) (hih13 : ∀ (yx1 : Int32) (yx2 : Int32) (M : Mem), OKm (w2 g) M → ((0 : Int) ≤ (yx1).toInt ∧ (yx1).toInt ≤ 2147483647) → ((0 : Int) ≤ (yx2).toInt ∧ (yx2).toInt ≤ 256) → 256 - (yx2).toInt < d13 → Sf (ih13 yx1 yx2 M) (qMI (w2 g) (0) (2147483647))) (hmu13 : 256 - (x2).toInt ≤ d13) : Sf (mX7_mostBends_b93 135 ih13 x2 y0 M) (qMI (w2 g) (0) (2147483647)) := by
  unfold mX7_mostBends_b93
  have n_1 : ((1 : Int32)).toInt = 1 := rfl
  try have a_2 : ((x2 + (1 : Int32))).toInt = (x2).toInt + ((1 : Int32)).toInt := i_add (by omega) (by omega)
  refine Sf.b (fun x2_94 e_x2_94 => ?_)
  have d_x2_94 := congrArg Int32.toInt e_x2_94
  have g_3 := i_rng y0
  exact (hih13 _ _ _ h_M ⟨by omega, by omega⟩ ⟨by omega, by omega⟩ (by omega))
set_option maxHeartbeats 2000000 in
theorem sX7_mostBends_b67 {g : Gm} {ih13 : Int32 → Int32 → Mem → Option (Mem × Int32)} {ih26 : Int32 → Int32 → Int32 → Int32 → Mem → Option (Mem × Int32)} {x1 : Int32} {x2 : Int32} {x4 : Int32} {y0 : Int32} {y1 : Int32} {M : Mem} {d13 : Nat} {d26 : Nat} (h_M : OKm (w2 g) M) (hx1 : (0 : Int) ≤ (x1).toInt ∧ (x1).toInt ≤ 2147483647) (hx2 : (0 : Int) ≤ (x2).toInt ∧ (x2).toInt ≤ 255) (hx4 : (0 : Int) ≤ (x4).toInt ∧ (x4).toInt ≤ 7) (hy1 : (0 : Int) ≤ (y1).toInt ∧ (y1).toInt ≤ 1) (he0 : (1 : Int) ≤ (rd M (135 + 1) ((((0 : Int32)).toNatClampNeg))).toInt ∧ (rd M (135 + 1) ((((0 : Int32)).toNatClampNeg))).toInt ≤ 8) (hih13 : ∀ (yx1 : Int32) (yx2 : Int32) (M : Mem), OKm (w2 g) M → ((0 : Int) ≤ (yx1).toInt ∧ (yx1).toInt ≤ 2147483647) → ((0 : Int) ≤ (yx2).toInt ∧ (yx2).toInt ≤ 256) → 256 - (yx2).toInt < d13 → Sf (ih13 yx1 yx2 M) (qMI (w2 g) (0) (2147483647))) (hmu13 : 256 - (x2).toInt ≤ d13) (hih26 : ∀ (yx1 : Int32) (yx2 : Int32) (yx3 : Int32) (yx4 : Int32) (M : Mem), OKm (w2 g) M → ((0 : Int) ≤ (yx1).toInt ∧ (yx1).toInt ≤ 2147483647) → ((0 : Int) ≤ (yx2).toInt ∧ (yx2).toInt ≤ 255) → ((0 : Int) ≤ (yx4).toInt ∧ (yx4).toInt ≤ 8) → (256 - (yx2).toInt ≤ d13) → 8 - (yx4).toInt < d26 → Sf (ih26 yx1 yx2 yx3 yx4 M) (qMI (w2 g) (0) (2147483647))) (hmu26 : 8 - (x4).toInt ≤ d26) : Sf (mX7_mostBends_b67 135 ih13 ih26 x1 x2 x4 y0 y1 M) (qMI (w2 g) (0) (2147483647)) := by
  unfold mX7_mostBends_b67
  refine Sf.b (fun x3_68 e_x3_68 => ?_)
  have d_x3_68 := congrArg Int32.toInt e_x3_68
  have n_1 : ((1 : Int32)).toInt = 1 := rfl
  try have a_2 : ((x4 + (1 : Int32))).toInt = (x4).toInt + ((1 : Int32)).toInt := i_add (by omega) (by omega)
  refine Sf.b (fun x4_69 e_x4_69 => ?_)
  have d_x4_69 := congrArg Int32.toInt e_x4_69
  have g_3 := i_rng x1
  exact (hih26 _ _ _ _ _ h_M ⟨by omega, by omega⟩ ⟨by omega, by omega⟩ ⟨by omega, by omega⟩ (by omega) (by omega))
set_option maxHeartbeats 2000000 in
theorem sX7_mostBends_b66 {g : Gm} {ih13 : Int32 → Int32 → Mem → Option (Mem × Int32)} {ih26 : Int32 → Int32 → Int32 → Int32 → Mem → Option (Mem × Int32)} {x1 : Int32} {x2 : Int32} {x4 : Int32} {y0 : Int32} {M : Mem} {d13 : Nat} {d26 : Nat} (h_M : OKm (w2 g) M) (hx1 : (0 : Int) ≤ (x1).toInt ∧ (x1).toInt ≤ 2147483647) (hx2 : (0 : Int) ≤ (x2).toInt ∧ (x2).toInt ≤ 255) (hx4 : (0 : Int) ≤ (x4).toInt ∧ (x4).toInt ≤ 7) (he0 : (1 : Int) ≤ (rd M (135 + 1) ((((0 : Int32)).toNatClampNeg))).toInt ∧ (rd M (135 + 1) ((((0 : Int32)).toNatClampNeg))).toInt ≤ 8) (hih13 : ∀ (yx1 : Int32) (yx2 : Int32) (M : Mem), OKm (w2 g) M → ((0 : Int) ≤ (yx1).toInt ∧ (yx1).toInt ≤ 2147483647) → ((0 : Int) ≤ (yx2).toInt ∧ (yx2).toInt ≤ 256) → 256 - (yx2).toInt < d13 → Sf (ih13 yx1 yx2 M) (qMI (w2 g) (0) (2147483647))) (hmu13 : 256 - (x2).toInt ≤ d13) (hih26 : ∀ (yx1 : Int32) (yx2 : Int32) (yx3 : Int32) (yx4 : Int32) (M : Mem), OKm (w2 g) M → ((0 : Int) ≤ (yx1).toInt ∧ (yx1).toInt ≤ 2147483647) → ((0 : Int) ≤ (yx2).toInt ∧ (yx2).toInt ≤ 255) → ((0 : Int) ≤ (yx4).toInt ∧ (yx4).toInt ≤ 8) → (256 - (yx2).toInt ≤ d13) → 8 - (yx4).toInt < d26 → Sf (ih26 yx1 yx2 yx3 yx4 M) (qMI (w2 g) (0) (2147483647))) (hmu26 : 8 - (x4).toInt ≤ d26) : Sf (mX7_mostBends_b66 135 ih13 ih26 x1 x2 x4 y0 M) (qMI (w2 g) (0) (2147483647)) := by
  unfold mX7_mostBends_b66
  have g_1 := i_rng x1
  have n_2 : ((0 : Int32)).toInt = 0 := rfl
  have b_3 : (0 : Int) ≤ (rd M (135 + 1) (((0 : Int32)).toNatClampNeg)).toInt ∧ (rd M (135 + 1) (((0 : Int32)).toNatClampNeg)).toInt ≤ 8 := h_M.ri 0 0 (by decide +kernel) (by omega) (by omega)
  exact (sX7_mostBends_b67 h_M ⟨by omega, by omega⟩ ⟨by omega, by omega⟩ ⟨by omega, by omega⟩ ⟨by omega, by omega⟩ ⟨by omega, by omega⟩ hih13 (by omega) hih26 (by omega))
set_option maxHeartbeats 2000000 in
theorem sX7_mostBends_b26 {g : Gm} {ih13 : Int32 → Int32 → Mem → Option (Mem × Int32)} {ih26 : Int32 → Int32 → Int32 → Int32 → Mem → Option (Mem × Int32)} {x1 : Int32} {x2 : Int32} {x3 : Int32} {x4 : Int32} {M : Mem} {d13 : Nat} {d26 : Nat} (h_M : OKm (w2 g) M) (hx1 : (0 : Int) ≤ (x1).toInt ∧ (x1).toInt ≤ 2147483647) (hx2 : (0 : Int) ≤ (x2).toInt ∧ (x2).toInt ≤ 255) (hx4 : (0 : Int) ≤ (x4).toInt ∧ (x4).toInt ≤ 8) (hih13 : ∀ (yx1 : Int32) (yx2 : Int32) (M : Mem), OKm (w2 g) M → ((0 : Int) ≤ (yx1).toInt ∧ (yx1).toInt ≤ 2147483647) → ((0 : Int) ≤ (yx2).toInt ∧ (yx2).toInt ≤ 256) → 256 - (yx2).toInt < d13 → Sf (ih13 yx1 yx2 M) (qMI (w2 g) (0) (2147483647))) (hmu13 : 256 - (x2).toInt ≤ d13) (hih26 : ∀ (yx1 : Int32) (yx2 : Int32) (yx3 : Int32) (yx4 : Int32) (M : Mem), OKm (w2 g) M → ((0 : Int) ≤ (yx1).toInt ∧ (yx1).toInt ≤ 2147483647) → ((0 : Int) ≤ (yx2).toInt ∧ (yx2).toInt ≤ 255) → ((0 : Int) ≤ (yx4).toInt ∧ (yx4).toInt ≤ 8) → (256 - (yx2).toInt ≤ d13) → 8 - (yx4).toInt < d26 → Sf (ih26 yx1 yx2 yx3 yx4 M) (qMI (w2 g) (0) (2147483647))) (hmu26 : 8 - (x4).toInt ≤ d26) : Sf (mX7_mostBends_b26 135 ih13 ih26 x1 x2 x3 x4 M) (qMI (w2 g) (0) (2147483647)) := by
  unfold mX7_mostBends_b26
  have n_1 : ((0 : Int32)).toInt = 0 := rfl
  refine Sf.k (ok_in (by omega) (by omega)) ?_
  have b_2 : (0 : Int) ≤ (rd M (135 + 1) (((0 : Int32)).toNatClampNeg)).toInt ∧ (rd M (135 + 1) (((0 : Int32)).toNatClampNeg)).toInt ≤ 8 := h_M.ri 0 0 (by decide +kernel) (by omega) (by omega)
  refine Sf.i (fun c_3 => ?_) (fun c_3 => ?_)
  · have c_3 := i_le.mp c_3
    refine Sf.k (ok_in (by omega) (by omega)) ?_
    have b_4 : (0 : Int) ≤ (rd M (135 + 15) ((x2).toNatClampNeg)).toInt ∧ (rd M (135 + 15) ((x2).toNatClampNeg)).toInt ≤ 1 := h_M.at rfl
    have n_5 : ((0 : Int32)).toInt = 0 := rfl
    refine Sf.i (fun c_6 => ?_) (fun c_6 => ?_)
    · have c_6 := i_eq.mp c_6
      have g_7 := i_rng x1
      exact (sX7_mostBends_b93 h_M ⟨by omega, by omega⟩ ⟨by omega, by omega⟩ hih13 (by omega))
    · have c_6 := i_ne c_6
      have m_8 := i_max (a := x1) (b := x3)
      have g_9 := i_rng (imax x1 x3)
      exact (sX7_mostBends_b93 h_M ⟨by omega, by omega⟩ ⟨by omega, by omega⟩ hih13 (by omega))
  · have c_3 := i_nle c_3
    refine Sf.c (sX7_has h_M ⟨by omega, by omega⟩ ⟨by omega, by omega⟩) (fun r16 p_10 => ?_)
    obtain ⟨p_10a, p_10b⟩ := p_10
    have n_11 : ((0 : Int32)).toInt = 0 := rfl
    refine Sf.i (fun c_12 => ?_) (fun c_12 => ?_)
    · have c_12 := i_eq.mp c_12
      have g_13 := i_rng x1
      exact (sX7_mostBends_b66 h_M ⟨by omega, by omega⟩ ⟨by omega, by omega⟩ ⟨by omega, by omega⟩ ⟨by omega, by omega⟩ hih13 (by omega) hih26 (by omega))
    · have c_12 := i_ne c_12
      have n_14 : ((52 : Int32)).toInt = 52 := rfl
      refine Sf.k (ok_in (by omega) (by omega)) ?_
      have b_15 : (0 : Int) ≤ (rd M (135 + 1) (((52 : Int32)).toNatClampNeg)).toInt ∧ (rd M (135 + 1) (((52 : Int32)).toNatClampNeg)).toInt ≤ 255 := h_M.ri 52 52 (by decide +kernel) (by omega) (by omega)
      refine Sf.c (sX7_has h_M ⟨by omega, by omega⟩ ⟨by omega, by omega⟩) (fun r23 p_16 => ?_)
      obtain ⟨p_16a, p_16b⟩ := p_16
      refine Sf.i (fun c_17 => ?_) (fun c_17 => ?_)
      · have c_17 := i_eq.mp c_17
        have g_18 := i_rng x1
        have n_19 : ((1 : Int32)).toInt = 1 := rfl
        exact (sX7_mostBends_b67 h_M ⟨by omega, by omega⟩ ⟨by omega, by omega⟩ ⟨by omega, by omega⟩ ⟨by omega, by omega⟩ ⟨by omega, by omega⟩ hih13 (by omega) hih26 (by omega))
      · have c_17 := i_ne c_17
        have g_20 := i_rng x1
        exact (sX7_mostBends_b66 h_M ⟨by omega, by omega⟩ ⟨by omega, by omega⟩ ⟨by omega, by omega⟩ ⟨by omega, by omega⟩ hih13 (by omega) hih26 (by omega))
theorem sX7_mostBends_l26_n {g : Gm}  {ih13 : Int32 → Int32 → Mem → Option (Mem × Int32)} {d13 : Nat} (hih13 : ∀ (yx1 : Int32) (yx2 : Int32) (M : Mem), OKm (w2 g) M → ((0 : Int) ≤ (yx1).toInt ∧ (yx1).toInt ≤ 2147483647) → ((0 : Int) ≤ (yx2).toInt ∧ (yx2).toInt ≤ 256) → 256 - (yx2).toInt < d13 → Sf (ih13 yx1 yx2 M) (qMI (w2 g) (0) (2147483647))) : ∀ (n : Nat) (x1 : Int32) (x2 : Int32) (x3 : Int32) (x4 : Int32) (M : Mem) (h_M : OKm (w2 g) M) (hx1 : (0 : Int) ≤ (x1).toInt ∧ (x1).toInt ≤ 2147483647) (hx2 : (0 : Int) ≤ (x2).toInt ∧ (x2).toInt ≤ 255) (hx4 : (0 : Int) ≤ (x4).toInt ∧ (x4).toInt ≤ 8)   (hmu13 : 256 - (x2).toInt ≤ d13) (hmu : 8 - (x4).toInt < n), Sf (mX7_mostBends_l26 135 ih13 n x1 x2 x3 x4 M) (qMI (w2 g) (0) (2147483647)) := by
  intro n
  induction n with
  | zero => intro x1 x2 x3 x4 M h_M hx1 hx2 hx4 hmu13 hmu; exfalso; omega
  | succ n IH => intro x1 x2 x3 x4 M h_M hx1 hx2 hx4 hmu13 hmu; exact sX7_mostBends_b26  h_M hx1 hx2 hx4   hih13 hmu13 IH (by omega)
theorem sX7_mostBends_l26 {g : Gm}  {x1 : Int32} {x2 : Int32} {x3 : Int32} {x4 : Int32} {M : Mem} {ih13 : Int32 → Int32 → Mem → Option (Mem × Int32)} {d13 : Nat} (h_M : OKm (w2 g) M) (hx1 : (0 : Int) ≤ (x1).toInt ∧ (x1).toInt ≤ 2147483647) (hx2 : (0 : Int) ≤ (x2).toInt ∧ (x2).toInt ≤ 255) (hx4 : (0 : Int) ≤ (x4).toInt ∧ (x4).toInt ≤ 8)   (hih13 : ∀ (yx1 : Int32) (yx2 : Int32) (M : Mem), OKm (w2 g) M → ((0 : Int) ≤ (yx1).toInt ∧ (yx1).toInt ≤ 2147483647) → ((0 : Int) ≤ (yx2).toInt ∧ (yx2).toInt ≤ 256) → 256 - (yx2).toInt < d13 → Sf (ih13 yx1 yx2 M) (qMI (w2 g) (0) (2147483647))) (hmu13 : 256 - (x2).toInt ≤ d13) (hmu : 8 - (x4).toInt < 5000) : Sf (mX7_mostBends_l26 135 ih13 5000 x1 x2 x3 x4 M) (qMI (w2 g) (0) (2147483647)) :=
  sX7_mostBends_l26_n  hih13 5000 _ _ _ _ M h_M hx1 hx2 hx4   hmu13 hmu
set_option maxHeartbeats 2000000 in
theorem sX7_mostBends_b13 {g : Gm} {ih13 : Int32 → Int32 → Mem → Option (Mem × Int32)} {x1 : Int32} {x2 : Int32} {M : Mem} {d13 : Nat} (h_M : OKm (w2 g) M) (hx1 : (0 : Int) ≤ (x1).toInt ∧ (x1).toInt ≤ 2147483647) (hx2 : (0 : Int) ≤ (x2).toInt ∧ (x2).toInt ≤ 256) (hih13 : ∀ (yx1 : Int32) (yx2 : Int32) (M : Mem), OKm (w2 g) M → ((0 : Int) ≤ (yx1).toInt ∧ (yx1).toInt ≤ 2147483647) → ((0 : Int) ≤ (yx2).toInt ∧ (yx2).toInt ≤ 256) → 256 - (yx2).toInt < d13 → Sf (ih13 yx1 yx2 M) (qMI (w2 g) (0) (2147483647))) (hmu13 : 256 - (x2).toInt ≤ d13) : Sf (mX7_mostBends_b13 135 ih13 x1 x2 M) (qMI (w2 g) (0) (2147483647)) := by
  unfold mX7_mostBends_b13
  refine Sf.c (sX7_full h_M) (fun r7 p_1 => ?_)
  obtain ⟨p_1a, p_1b⟩ := p_1
  refine Sf.i (fun c_2 => ?_) (fun c_2 => ?_)
  · have c_2 := i_lt.mp c_2
    have z_3 : (0 : Int) ≤ (x1).toInt ∧ (x1).toInt ≤ 2147483647 := ⟨by omega, by omega⟩
    exact Sf.ok ⟨h_M, z_3⟩
  · have c_2 := i_nlt c_2
    have g_4 := i_rng x1
    have n_5 : ((0 : Int32)).toInt = 0 := rfl
    exact (sX7_mostBends_l26 h_M ⟨by omega, by omega⟩ ⟨by omega, by omega⟩ ⟨by omega, by omega⟩ hih13 (by omega) (by omega))
theorem sX7_mostBends_l13_n {g : Gm}    : ∀ (n : Nat) (x1 : Int32) (x2 : Int32) (M : Mem) (h_M : OKm (w2 g) M) (hx1 : (0 : Int) ≤ (x1).toInt ∧ (x1).toInt ≤ 2147483647) (hx2 : (0 : Int) ≤ (x2).toInt ∧ (x2).toInt ≤ 256)    (hmu : 256 - (x2).toInt < n), Sf (mX7_mostBends_l13 135 n x1 x2 M) (qMI (w2 g) (0) (2147483647)) := by
  intro n
  induction n with
  | zero => intro x1 x2 M h_M hx1 hx2 hmu; exfalso; omega
  | succ n IH => intro x1 x2 M h_M hx1 hx2 hmu; exact sX7_mostBends_b13  h_M hx1 hx2    IH (by omega)
theorem sX7_mostBends_l13 {g : Gm}  {x1 : Int32} {x2 : Int32} {M : Mem}  (h_M : OKm (w2 g) M) (hx1 : (0 : Int) ≤ (x1).toInt ∧ (x1).toInt ≤ 2147483647) (hx2 : (0 : Int) ≤ (x2).toInt ∧ (x2).toInt ≤ 256)    (hmu : 256 - (x2).toInt < 5000) : Sf (mX7_mostBends_l13 135 5000 x1 x2 M) (qMI (w2 g) (0) (2147483647)) :=
  sX7_mostBends_l13_n   5000 _ _ M h_M hx1 hx2    hmu
