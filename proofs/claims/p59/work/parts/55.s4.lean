set_option maxHeartbeats 2000000 in
theorem sX5_toolNumber_b2 {f : Bx} {k0 : Nat} {M : Mem} {ih2 : Int32 → Option Int32} {x1 : Int32} {d2 : Nat} (h_M : OKb f M) (hx1 : (0 : Int) ≤ (x1).toInt ∧ (x1).toInt ≤ 5) (hih2 : ∀ (yx1 : Int32), ((0 : Int) ≤ (yx1).toInt ∧ (yx1).toInt ≤ 5) → 5 - (yx1).toInt < d2 → Sf (ih2 yx1) (pI (-1) (4))) (hmu2 : 5 - (x1).toInt ≤ d2) : Sf (mX5_toolNumber_b2 k0 M ih2 x1) (pI (-1) (4)) := by
  unfold mX5_toolNumber_b2
  have n_1 : ((5 : Int32)).toInt = 5 := rfl
  refine Sf.i (fun c_2 => ?_) (fun c_2 => ?_)
  · have c_2 := i_le.mp c_2
    have n_3 : (((-1) : Int32)).toInt = -1 := rfl
    have z_4 : (-1 : Int) ≤ (((-1) : Int32)).toInt ∧ (((-1) : Int32)).toInt ≤ 4 := ⟨by omega, by omega⟩
    exact Sf.ok z_4
  · have c_2 := i_nle c_2
    refine Sf.c sX5_ofTool (fun r3 p_5 => ?_)
    have p_5 : r3 = none ∨ ∃ w, r3 = some w ∧ 5 ≤ w ∧ w ≤ 9 ∧ (w : Int) = 5 + (x1).toInt := p_5
    refine Sf.o (fun c_6 => ?_) (fun w5 c_6 => ?_)
    · skip
      have n_7 : ((1 : Int32)).toInt = 1 := rfl
      try have a_8 : ((x1 + (1 : Int32))).toInt = (x1).toInt + ((1 : Int32)).toInt := i_add (by omega) (by omega)
      refine Sf.b (fun x1_17 e_x1_17 => ?_)
      have d_x1_17 := congrArg Int32.toInt e_x1_17
      exact (hih2 _ ⟨by omega, by omega⟩ (by omega))
    · skip
      have p_5 : 5 ≤ w5 ∧ w5 ≤ 9 ∧ ((w5 : Nat) : Int) = 5 + _ := of_rel p_5 c_6
      refine Sf.k (decide_eq_true (by omega)) ?_
      refine Sf.i (fun c_9 => ?_) (fun c_9 => ?_)
      · skip
        have z_10 : (-1 : Int) ≤ (x1).toInt ∧ (x1).toInt ≤ 4 := ⟨by omega, by omega⟩
        exact Sf.ok z_10
      · skip
        have n_11 : ((1 : Int32)).toInt = 1 := rfl
        try have a_12 : ((x1 + (1 : Int32))).toInt = (x1).toInt + ((1 : Int32)).toInt := i_add (by omega) (by omega)
        refine Sf.b (fun x1_17 e_x1_17 => ?_)
        have d_x1_17 := congrArg Int32.toInt e_x1_17
        exact (hih2 _ ⟨by omega, by omega⟩ (by omega))
theorem sX5_toolNumber_l2_n {f : Bx} {k0 : Nat} {M : Mem}  (h_M : OKb f M)   : ∀ (n : Nat) (x1 : Int32) (hx1 : (0 : Int) ≤ (x1).toInt ∧ (x1).toInt ≤ 5)   (hmu : 5 - (x1).toInt < n), Sf (mX5_toolNumber_l2 k0 M n x1) (pI (-1) (4)) := by
  intro n
  induction n with
  | zero => intro x1 hx1 hmu; exfalso; omega
  | succ n IH => intro x1 hx1 hmu; exact sX5_toolNumber_b2  h_M hx1    IH (by omega)
theorem sX5_toolNumber_l2 {f : Bx} {k0 : Nat} {M : Mem} {x1 : Int32}  (h_M : OKb f M) (hx1 : (0 : Int) ≤ (x1).toInt ∧ (x1).toInt ≤ 5)    (hmu : 5 - (x1).toInt < 5000) : Sf (mX5_toolNumber_l2 k0 M 5000 x1) (pI (-1) (4)) :=
  sX5_toolNumber_l2_n  h_M   5000 _ hx1   hmu
set_option maxHeartbeats 2000000 in
theorem sX5_toolNumber {f : Bx} {k0 : Nat} {M : Mem} (h_M : OKb f M) : Sf (mX5_toolNumber k0 M) (pI (-1) (4)) := by
  unfold mX5_toolNumber
  have n_1 : ((0 : Int32)).toInt = 0 := rfl
  exact (sX5_toolNumber_l2 h_M ⟨by omega, by omega⟩ (by omega))
set_option maxHeartbeats 2000000 in
theorem sX5_isBend_b14 {f : Bx} {k0 : Nat} {M : Mem} (h_M : OKb f M) : Sf (mX5_isBend_b14 k0 M) (pI (0) (1)) := by
  unfold mX5_isBend_b14
  have n_1 : ((1 : Int32)).toInt = 1 := rfl
  have z_2 : (0 : Int) ≤ ((1 : Int32)).toInt ∧ ((1 : Int32)).toInt ≤ 1 := ⟨by omega, by omega⟩
  exact Sf.ok z_2
set_option maxHeartbeats 2000000 in
theorem sX5_isBend {f : Bx} {k0 : Nat} {M : Mem} (h_M : OKb f M) : Sf (mX5_isBend k0 M) (pI (0) (1)) := by
  unfold mX5_isBend
  refine Sf.i (fun c_1 => ?_) (fun c_1 => ?_)
  · skip
    exact (sX5_isBend_b14 h_M)
  · skip
    refine Sf.i (fun c_2 => ?_) (fun c_2 => ?_)
    · skip
      exact (sX5_isBend_b14 h_M)
    · skip
      have n_3 : ((0 : Int32)).toInt = 0 := rfl
      have z_4 : (0 : Int) ≤ ((0 : Int32)).toInt ∧ ((0 : Int32)).toInt ≤ 1 := ⟨by omega, by omega⟩
      exact Sf.ok z_4
set_option maxHeartbeats 2000000 in
theorem sX4_isSpace_b12 {f : Bx} {M : Mem} (h_M : OKb f M) : Sf (mX4_isSpace_b12 M) (pI (0) (1)) := by
  unfold mX4_isSpace_b12
  have n_1 : ((1 : Int32)).toInt = 1 := rfl
  have z_2 : (0 : Int) ≤ ((1 : Int32)).toInt ∧ ((1 : Int32)).toInt ≤ 1 := ⟨by omega, by omega⟩
  exact Sf.ok z_2
set_option maxHeartbeats 2000000 in
theorem sX4_isSpace {f : Bx} {x0 : Int32} {M : Mem} (h_M : OKb f M) (hx0 : (-128 : Int) ≤ (x0).toInt ∧ (x0).toInt ≤ 127) : Sf (mX4_isSpace x0 M) (pI (0) (1)) := by
  unfold mX4_isSpace
  have n_1 : ((32 : Int32)).toInt = 32 := rfl
  refine Sf.i (fun c_2 => ?_) (fun c_2 => ?_)
  · have c_2 := i_eq.mp c_2
    exact (sX4_isSpace_b12 h_M)
  · have c_2 := i_ne c_2
    have n_3 : ((10 : Int32)).toInt = 10 := rfl
    refine Sf.i (fun c_4 => ?_) (fun c_4 => ?_)
    · have c_4 := i_eq.mp c_4
      exact (sX4_isSpace_b12 h_M)
    · have c_4 := i_ne c_4
      have n_5 : ((0 : Int32)).toInt = 0 := rfl
      have z_6 : (0 : Int) ≤ ((0 : Int32)).toInt ∧ ((0 : Int32)).toInt ≤ 1 := ⟨by omega, by omega⟩
      exact Sf.ok z_6
set_option maxHeartbeats 2000000 in
theorem sX4_isLetter {f : Bx} {x0 : Int32} {M : Mem} (h_M : OKb f M) (hx0 : (-128 : Int) ≤ (x0).toInt ∧ (x0).toInt ≤ 127) : Sf (mX4_isLetter x0 M) (pI (0) (1)) := by
  unfold mX4_isLetter
  have n_1 : ((97 : Int32)).toInt = 97 := rfl
  refine Sf.i (fun c_2 => ?_) (fun c_2 => ?_)
  · have c_2 := i_lt.mp c_2
    have n_3 : ((0 : Int32)).toInt = 0 := rfl
    have z_4 : (0 : Int) ≤ ((0 : Int32)).toInt ∧ ((0 : Int32)).toInt ≤ 1 := ⟨by omega, by omega⟩
    exact Sf.ok z_4
  · have c_2 := i_nlt c_2
    have n_5 : ((122 : Int32)).toInt = 122 := rfl
    refine Sf.i (fun c_6 => ?_) (fun c_6 => ?_)
    · have c_6 := i_lt.mp c_6
      have n_7 : ((0 : Int32)).toInt = 0 := rfl
      have z_8 : (0 : Int) ≤ ((0 : Int32)).toInt ∧ ((0 : Int32)).toInt ≤ 1 := ⟨by omega, by omega⟩
      exact Sf.ok z_8
    · have c_6 := i_nlt c_6
      have n_9 : ((1 : Int32)).toInt = 1 := rfl
      have z_10 : (0 : Int) ≤ ((1 : Int32)).toInt ∧ ((1 : Int32)).toInt ≤ 1 := ⟨by omega, by omega⟩
      exact Sf.ok z_10
set_option maxHeartbeats 2000000 in
theorem sX4_takeWord_b39 {g : (Nat → Int × Int) × (Nat → Int × Int)} {M : Mem} (h_M : OKb (true, g) M) : Sf (mX4_takeWord_b39 2 M) (pM (true, g)) := by
  unfold mX4_takeWord_b39
  have n_1 : ((6 : Int32)).toInt = 6 := rfl
  have b_2 : (0 : Int) ≤ (rd M 2 5).toInt ∧ (rd M 2 5).toInt ≤ 600 := h_M.at rfl
  have b_3 : (0 : Int) ≤ (rd M 2 4).toInt ∧ (rd M 2 4).toInt ≤ 600 := h_M.at rfl
  try have a_4 : (((rd M 2 5) - (rd M 2 4))).toInt = ((rd M 2 5)).toInt - ((rd M 2 4)).toInt := i_sub (by omega) (by omega)
  refine Sf.i (fun c_5 => ?_) (fun c_5 => ?_)
  · have c_5 := i_lt.mp c_5
    have n_6 : ((1 : Int32)).toInt = 1 := rfl
    have z_7 : (0 : Int) ≤ ((1 : Int32)).toInt ∧ ((1 : Int32)).toInt ≤ 4 := ⟨by omega, by omega⟩
    refine Sf.b (fun M3 e_M3 => ?_)
    have h_M3 : OKb (true, g) M3 := by rw [e_M3]; exact h_M.put rfl z_7
    exact Sf.ok h_M3
  · have c_5 := i_nlt c_5
    have n_8 : ((2 : Int32)).toInt = 2 := rfl
    have z_9 : (0 : Int) ≤ ((2 : Int32)).toInt ∧ ((2 : Int32)).toInt ≤ 4 := ⟨by omega, by omega⟩
    refine Sf.b (fun M5 e_M5 => ?_)
    have h_M5 : OKb (true, g) M5 := by rw [e_M5]; exact h_M.put rfl z_9
    exact Sf.ok h_M5
set_option maxHeartbeats 2000000 in
theorem sX4_takeWord_b0 {g : (Nat → Int × Int) × (Nat → Int × Int)} {ih0 : Mem → Option (Mem × Unit)} {M : Mem} {d0 : Nat} (h_M : OKb (true, g) M) (hih0 : ∀  (M : Mem), OKb (true, g) M → 600 - (rd M 2 5).toInt < d0 → Sf (ih0  M) (pM (true, g))) (hmu0 : 600 - (rd M 2 5).toInt ≤ d0) : Sf (mX4_takeWord_b0 2 ih0 M) (pM (true, g)) := by
  unfold mX4_takeWord_b0
  have b_1 : (0 : Int) ≤ (rd M 2 3).toInt ∧ (rd M 2 3).toInt ≤ 600 := h_M.at rfl
  have b_2 : (0 : Int) ≤ (rd M 2 5).toInt ∧ (rd M 2 5).toInt ≤ 600 := h_M.at rfl
  refine Sf.i (fun c_3 => ?_) (fun c_3 => ?_)
  · have c_3 := i_le.mp c_3
    exact (sX4_takeWord_b39 h_M)
  · have c_3 := i_nle c_3
    have b_4 : (1 : Int) ≤ (rd M 2 2).toInt ∧ (rd M 2 2).toInt ≤ 1 := h_M.at rfl
    have n_5 : ((1 : Int32)).toInt = 1 := rfl
    refine Sf.k (decide_eq_true (i_eq.mpr (by omega))) ?_
    refine Sf.k (ok_in (by omega) (by omega)) ?_
    have b_6 : (-128 : Int) ≤ (rd M 1 (((rd M 2 5)).toNatClampNeg)).toInt ∧ (rd M 1 (((rd M 2 5)).toNatClampNeg)).toInt ≤ 127 := h_M.at rfl
    refine Sf.c (sX4_isLetter h_M ⟨by omega, by omega⟩) (fun r10 p_7 => ?_)
    obtain ⟨p_7a, p_7b⟩ := p_7
    have n_8 : ((0 : Int32)).toInt = 0 := rfl
    refine Sf.i (fun c_9 => ?_) (fun c_9 => ?_)
    · have c_9 := i_eq.mp c_9
      exact (sX4_takeWord_b39 h_M)
    · have c_9 := i_ne c_9
      have n_10 : ((1 : Int32)).toInt = 1 := rfl
      try have a_11 : (((rd M 2 5) + (1 : Int32))).toInt = ((rd M 2 5)).toInt + ((1 : Int32)).toInt := i_add (by omega) (by omega)
      have z_12 : (0 : Int) ≤ (((rd M 2 5) + (1 : Int32))).toInt ∧ (((rd M 2 5) + (1 : Int32))).toInt ≤ 600 := ⟨by omega, by omega⟩
      refine Sf.b (fun M13 e_M13 => ?_)
      have h_M13 : OKb (true, g) M13 := by rw [e_M13]; exact h_M.put rfl z_12
      have w_13 : (rd M13 2 5).toInt = (((rd M 2 5) + (1 : Int32))).toInt := by rw [e_M13, rd_we]
      exact (hih0 _ h_M13 (by omega))
theorem sX4_takeWord_l0_n {g : (Nat → Int × Int) × (Nat → Int × Int)}    : ∀ (n : Nat)  (M : Mem) (h_M : OKb (true, g) M)     (hmu : 600 - (rd M 2 5).toInt < n), Sf (mX4_takeWord_l0 2 n  M) (pM (true, g)) := by
  intro n
  induction n with
  | zero => intro M h_M hmu; have bz0 : (0 : Int) ≤ (rd M 2 5).toInt ∧ (rd M 2 5).toInt ≤ 600 := h_M.at rfl; exfalso; omega
  | succ n IH => intro M h_M hmu; exact sX4_takeWord_b0  h_M     IH (by omega)
theorem sX4_takeWord_l0 {g : (Nat → Int × Int) × (Nat → Int × Int)}   {M : Mem}  (h_M : OKb (true, g) M)     (hmu : 600 - (rd M 2 5).toInt < 5000) : Sf (mX4_takeWord_l0 2 5000  M) (pM (true, g)) :=
  sX4_takeWord_l0_n   5000  M h_M     hmu
set_option maxHeartbeats 2000000 in
theorem sX4_takeWord {g : (Nat → Int × Int) × (Nat → Int × Int)} {M : Mem} (h_M : OKb (true, g) M) : Sf (mX4_takeWord 2 M) (pM (true, g)) := by
  unfold mX4_takeWord
  have b_1 : (0 : Int) ≤ (rd M 2 5).toInt ∧ (rd M 2 5).toInt ≤ 600 := h_M.at rfl
  exact (sX4_takeWord_l0 h_M (by omega))
set_option maxHeartbeats 2000000 in
theorem sX4_isDigit {f : Bx} {x0 : Int32} {M : Mem} (h_M : OKb f M) (hx0 : (-128 : Int) ≤ (x0).toInt ∧ (x0).toInt ≤ 127) : Sf (mX4_isDigit x0 M) (pI (0) (1)) := by
  unfold mX4_isDigit
  have n_1 : ((48 : Int32)).toInt = 48 := rfl
  refine Sf.i (fun c_2 => ?_) (fun c_2 => ?_)
  · have c_2 := i_lt.mp c_2
    have n_3 : ((0 : Int32)).toInt = 0 := rfl
    have z_4 : (0 : Int) ≤ ((0 : Int32)).toInt ∧ ((0 : Int32)).toInt ≤ 1 := ⟨by omega, by omega⟩
    exact Sf.ok z_4
  · have c_2 := i_nlt c_2
    have n_5 : ((57 : Int32)).toInt = 57 := rfl
    refine Sf.i (fun c_6 => ?_) (fun c_6 => ?_)
    · have c_6 := i_lt.mp c_6
      have n_7 : ((0 : Int32)).toInt = 0 := rfl
      have z_8 : (0 : Int) ≤ ((0 : Int32)).toInt ∧ ((0 : Int32)).toInt ≤ 1 := ⟨by omega, by omega⟩
      exact Sf.ok z_8
    · have c_6 := i_nlt c_6
      have n_9 : ((1 : Int32)).toInt = 1 := rfl
      have z_10 : (0 : Int) ≤ ((1 : Int32)).toInt ∧ ((1 : Int32)).toInt ≤ 1 := ⟨by omega, by omega⟩
      exact Sf.ok z_10
set_option maxHeartbeats 2000000 in
theorem sX4_takeNumber_b76 {g : (Nat → Int × Int) × (Nat → Int × Int)} {M : Mem} (h_M : OKb (true, g) M) : Sf (mX4_takeNumber_b76 2 M) (pM (true, g)) := by
  unfold mX4_takeNumber_b76
  have n_1 : ((4 : Int32)).toInt = 4 := rfl
  have b_2 : (0 : Int) ≤ (rd M 2 5).toInt ∧ (rd M 2 5).toInt ≤ 600 := h_M.at rfl
  have b_3 : (0 : Int) ≤ (rd M 2 4).toInt ∧ (rd M 2 4).toInt ≤ 600 := h_M.at rfl
  try have a_4 : (((rd M 2 5) - (rd M 2 4))).toInt = ((rd M 2 5)).toInt - ((rd M 2 4)).toInt := i_sub (by omega) (by omega)
  refine Sf.i (fun c_5 => ?_) (fun c_5 => ?_)
  · have c_5 := i_lt.mp c_5
    have n_6 : ((1 : Int32)).toInt = 1 := rfl
    have z_7 : (0 : Int) ≤ ((1 : Int32)).toInt ∧ ((1 : Int32)).toInt ≤ 4 := ⟨by omega, by omega⟩
    refine Sf.b (fun M3 e_M3 => ?_)
    have h_M3 : OKb (true, g) M3 := by rw [e_M3]; exact h_M.put rfl z_7
    exact Sf.ok h_M3
  · have c_5 := i_nlt c_5
    have n_8 : ((3 : Int32)).toInt = 3 := rfl
    have z_9 : (0 : Int) ≤ ((3 : Int32)).toInt ∧ ((3 : Int32)).toInt ≤ 4 := ⟨by omega, by omega⟩
    refine Sf.b (fun M5 e_M5 => ?_)
    have h_M5 : OKb (true, g) M5 := by rw [e_M5]; exact h_M.put rfl z_9
    exact Sf.ok h_M5
set_option maxHeartbeats 2000000 in
theorem sX4_takeNumber_b63 {g : (Nat → Int × Int) × (Nat → Int × Int)} {ih0 : Mem → Option (Mem × Unit)} {M : Mem} {d0 : Nat} (h_M : OKb (true, g) M) (he0 : (1 : Int) ≤ (rd M 2 2).toInt ∧ (rd M 2 2).toInt ≤ 1) (he1 : (1 : Int) ≤ (rd M 2 3).toInt ∧ (rd M 2 3).toInt ≤ 600) (he2 : (0 : Int) ≤ (rd M 2 5).toInt ∧ (rd M 2 5).toInt ≤ 599) (hih0 : ∀  (M : Mem), OKb (true, g) M → 600 - (rd M 2 5).toInt < d0 → Sf (ih0  M) (pM (true, g))) (hmu0 : 600 - (rd M 2 5).toInt ≤ d0) : Sf (mX4_takeNumber_b63 2 ih0 M) (pM (true, g)) := by
  unfold mX4_takeNumber_b63
  have b_1 : (0 : Int) ≤ (rd M 2 5).toInt ∧ (rd M 2 5).toInt ≤ 600 := h_M.at rfl
  have n_2 : ((1 : Int32)).toInt = 1 := rfl
  try have a_3 : (((rd M 2 5) + (1 : Int32))).toInt = ((rd M 2 5)).toInt + ((1 : Int32)).toInt := i_add (by omega) (by omega)
  have z_4 : (0 : Int) ≤ (((rd M 2 5) + (1 : Int32))).toInt ∧ (((rd M 2 5) + (1 : Int32))).toInt ≤ 600 := ⟨by omega, by omega⟩
  refine Sf.b (fun M14 e_M14 => ?_)
  have h_M14 : OKb (true, g) M14 := by rw [e_M14]; exact h_M.put rfl z_4
  have w_5 : (rd M14 2 5).toInt = (((rd M 2 5) + (1 : Int32))).toInt := by rw [e_M14, rd_we]
  exact (hih0 _ h_M14 (by omega))
set_option maxHeartbeats 2000000 in
theorem sX4_takeNumber_b0 {g : (Nat → Int × Int) × (Nat → Int × Int)} {ih0 : Mem → Option (Mem × Unit)} {M : Mem} {d0 : Nat} (h_M : OKb (true, g) M) (hih0 : ∀  (M : Mem), OKb (true, g) M → 600 - (rd M 2 5).toInt < d0 → Sf (ih0  M) (pM (true, g))) (hmu0 : 600 - (rd M 2 5).toInt ≤ d0) : Sf (mX4_takeNumber_b0 2 ih0 M) (pM (true, g)) := by
  unfold mX4_takeNumber_b0
  have b_1 : (0 : Int) ≤ (rd M 2 3).toInt ∧ (rd M 2 3).toInt ≤ 600 := h_M.at rfl
  have b_2 : (0 : Int) ≤ (rd M 2 5).toInt ∧ (rd M 2 5).toInt ≤ 600 := h_M.at rfl
  refine Sf.i (fun c_3 => ?_) (fun c_3 => ?_)
  · have c_3 := i_le.mp c_3
    exact (sX4_takeNumber_b76 h_M)
  · have c_3 := i_nle c_3
    have b_4 : (1 : Int) ≤ (rd M 2 2).toInt ∧ (rd M 2 2).toInt ≤ 1 := h_M.at rfl
    have n_5 : ((1 : Int32)).toInt = 1 := rfl
    refine Sf.k (decide_eq_true (i_eq.mpr (by omega))) ?_
    refine Sf.k (ok_in (by omega) (by omega)) ?_
    have b_6 : (-128 : Int) ≤ (rd M 1 (((rd M 2 5)).toNatClampNeg)).toInt ∧ (rd M 1 (((rd M 2 5)).toNatClampNeg)).toInt ≤ 127 := h_M.at rfl
    refine Sf.c (sX4_isDigit h_M ⟨by omega, by omega⟩) (fun r10 p_7 => ?_)
    obtain ⟨p_7a, p_7b⟩ := p_7
    have n_8 : ((0 : Int32)).toInt = 0 := rfl
    refine Sf.i (fun c_9 => ?_) (fun c_9 => ?_)
    · have c_9 := i_eq.mp c_9
      exact (sX4_takeNumber_b76 h_M)
    · have c_9 := i_ne c_9
      have n_10 : ((4 : Int32)).toInt = 4 := rfl
      have b_11 : (0 : Int) ≤ (rd M 2 4).toInt ∧ (rd M 2 4).toInt ≤ 600 := h_M.at rfl
      try have a_12 : (((rd M 2 5) - (rd M 2 4))).toInt = ((rd M 2 5)).toInt - ((rd M 2 4)).toInt := i_sub (by omega) (by omega)
      refine Sf.i (fun c_13 => ?_) (fun c_13 => ?_)
      · have c_13 := i_le.mp c_13
        exact (sX4_takeNumber_b63 h_M ⟨by omega, by omega⟩ ⟨by omega, by omega⟩ ⟨by omega, by omega⟩ hih0 (by omega))
      · have c_13 := i_nle c_13
        refine Sf.k (decide_eq_true (i_eq.mpr (by omega))) ?_
        refine Sf.k (ok_in (by omega) (by omega)) ?_
        refine Sf.b (fun M18 e_M18 => ?_)
        have h_M18 : OKb (true, g) M18 := by rw [e_M18]; exact h_M.put rfl (i_rng _)
        have w_14 : (rd M18 2 2).toInt = (rd M 2 2).toInt := by rw [e_M18, rd_wj (by decide)]
        have w_15 : (rd M18 2 3).toInt = (rd M 2 3).toInt := by rw [e_M18, rd_wj (by decide)]
        have w_16 : (rd M18 2 5).toInt = (rd M 2 5).toInt := by rw [e_M18, rd_wj (by decide)]
        exact (sX4_takeNumber_b63 h_M18 ⟨by omega, by omega⟩ ⟨by omega, by omega⟩ ⟨by omega, by omega⟩ hih0 (by omega))
theorem sX4_takeNumber_l0_n {g : (Nat → Int × Int) × (Nat → Int × Int)}    : ∀ (n : Nat)  (M : Mem) (h_M : OKb (true, g) M)     (hmu : 600 - (rd M 2 5).toInt < n), Sf (mX4_takeNumber_l0 2 n  M) (pM (true, g)) := by
  intro n
  induction n with
  | zero => intro M h_M hmu; have bz0 : (0 : Int) ≤ (rd M 2 5).toInt ∧ (rd M 2 5).toInt ≤ 600 := h_M.at rfl; exfalso; omega
  | succ n IH => intro M h_M hmu; exact sX4_takeNumber_b0  h_M     IH (by omega)
theorem sX4_takeNumber_l0 {g : (Nat → Int × Int) × (Nat → Int × Int)}   {M : Mem}  (h_M : OKb (true, g) M)     (hmu : 600 - (rd M 2 5).toInt < 5000) : Sf (mX4_takeNumber_l0 2 5000  M) (pM (true, g)) :=
  sX4_takeNumber_l0_n   5000  M h_M     hmu
set_option maxHeartbeats 2000000 in
theorem sX4_takeNumber {g : (Nat → Int × Int) × (Nat → Int × Int)} {M : Mem} (h_M : OKb (true, g) M) : Sf (mX4_takeNumber 2 M) (pM (true, g)) := by
  unfold mX4_takeNumber
  have b_1 : (0 : Int) ≤ (rd M 2 5).toInt ∧ (rd M 2 5).toInt ≤ 600 := h_M.at rfl
  exact (sX4_takeNumber_l0 h_M (by omega))
set_option maxHeartbeats 2000000 in
theorem sX4_nextToken_b143 {g : (Nat → Int × Int) × (Nat → Int × Int)} {y1 : Int32} {M : Mem} (h_M : OKb (true, g) M) (hy1 : (1 : Int) ≤ (y1).toInt ∧ (y1).toInt ≤ 4) (he0 : (1 : Int) ≤ (rd M 2 2).toInt ∧ (rd M 2 2).toInt ≤ 1) (he1 : (1 : Int) ≤ (rd M 2 3).toInt ∧ (rd M 2 3).toInt ≤ 600) (he2 : (0 : Int) ≤ (rd M 2 4).toInt ∧ (rd M 2 4).toInt ≤ 599) (he3 : (0 : Int) ≤ (rd M 2 5).toInt ∧ (rd M 2 5).toInt ≤ 599) (he4 : (0 : Int) ≤ (rd M 2 7).toInt ∧ (rd M 2 7).toInt ≤ 0) : Sf (mX4_nextToken_b143 2 y1 M) (pM (true, g)) := by
  unfold mX4_nextToken_b143
  have z_1 : (0 : Int) ≤ (y1).toInt ∧ (y1).toInt ≤ 4 := ⟨by omega, by omega⟩
  refine Sf.b (fun M24 e_M24 => ?_)
  have h_M24 : OKb (true, g) M24 := by rw [e_M24]; exact h_M.put rfl z_1
  have w_2 : (rd M24 2 5).toInt = (rd M 2 5).toInt := by rw [e_M24, rd_wj (by decide)]
  have b_3 : (0 : Int) ≤ (rd M 2 5).toInt ∧ (rd M 2 5).toInt ≤ 600 := h_M.at rfl
  have n_4 : ((1 : Int32)).toInt = 1 := rfl
  try have a_5 : (((rd M24 2 5) + (1 : Int32))).toInt = ((rd M24 2 5)).toInt + ((1 : Int32)).toInt := i_add (by omega) (by omega)
  have z_6 : (0 : Int) ≤ (((rd M24 2 5) + (1 : Int32))).toInt ∧ (((rd M24 2 5) + (1 : Int32))).toInt ≤ 600 := ⟨by omega, by omega⟩
  refine Sf.b (fun M26 e_M26 => ?_)
  have h_M26 : OKb (true, g) M26 := by rw [e_M26]; exact h_M24.put rfl z_6
  exact Sf.ok h_M26
set_option maxHeartbeats 2000000 in
theorem sX4_nextToken_b47 {g : (Nat → Int × Int) × (Nat → Int × Int)} {M : Mem} (h_M : OKb (true, g) M) : Sf (mX4_nextToken_b47 2 M) (pM (true, g)) := by
  unfold mX4_nextToken_b47
  have b_1 : (0 : Int) ≤ (rd M 2 4).toInt ∧ (rd M 2 4).toInt ≤ 600 := h_M.at rfl
  have z_2 : (0 : Int) ≤ ((rd M 2 4)).toInt ∧ ((rd M 2 4)).toInt ≤ 600 := ⟨by omega, by omega⟩
  refine Sf.b (fun M4 e_M4 => ?_)
  have h_M4 : OKb (true, g) M4 := by rw [e_M4]; exact h_M.put rfl z_2
  refine Sf.b (fun M6 e_M6 => ?_)
  have h_M6 : OKb (true, g) M6 := by rw [e_M6]; exact h_M4.put rfl (i_rng _)
  have w_3 : (rd M6 2 4).toInt = (rd M4 2 4).toInt := by rw [e_M6, rd_wj (by decide)]
  have w_4 : (rd M4 2 4).toInt = (rd M 2 4).toInt := by rw [e_M4, rd_wj (by decide)]
  have w_5 : (rd M6 2 3).toInt = (rd M4 2 3).toInt := by rw [e_M6, rd_wj (by decide)]
  have w_6 : (rd M4 2 3).toInt = (rd M 2 3).toInt := by rw [e_M4, rd_wj (by decide)]
  have b_7 : (0 : Int) ≤ (rd M 2 3).toInt ∧ (rd M 2 3).toInt ≤ 600 := h_M.at rfl
  refine Sf.i (fun c_8 => ?_) (fun c_8 => ?_)
  · have c_8 := i_lt.mp c_8
    have w_9 : (rd M6 2 2).toInt = (rd M4 2 2).toInt := by rw [e_M6, rd_wj (by decide)]
    have w_10 : (rd M4 2 2).toInt = (rd M 2 2).toInt := by rw [e_M4, rd_wj (by decide)]
    have b_11 : (1 : Int) ≤ (rd M 2 2).toInt ∧ (rd M 2 2).toInt ≤ 1 := h_M.at rfl
    have n_12 : ((1 : Int32)).toInt = 1 := rfl
    refine Sf.k (decide_eq_true (i_eq.mpr (by omega))) ?_
    refine Sf.k (ok_in (by omega) (by omega)) ?_
    have w_13 : (rd M6 1 (((rd M6 2 4)).toNatClampNeg)).toInt = (rd M4 1 (((rd M6 2 4)).toNatClampNeg)).toInt := by rw [e_M6, rd_wk (by omega)]
    have w_14 : (rd M4 1 (((rd M6 2 4)).toNatClampNeg)).toInt = (rd M 1 (((rd M6 2 4)).toNatClampNeg)).toInt := by rw [e_M4, rd_wk (by omega)]
    have b_15 : (-128 : Int) ≤ (rd M 1 (((rd M6 2 4)).toNatClampNeg)).toInt ∧ (rd M 1 (((rd M6 2 4)).toNatClampNeg)).toInt ≤ 127 := h_M.at rfl
    refine Sf.c (sX4_isLetter h_M6 ⟨by omega, by omega⟩) (fun r12 p_16 => ?_)
    obtain ⟨p_16a, p_16b⟩ := p_16
    have n_17 : ((0 : Int32)).toInt = 0 := rfl
    refine Sf.i (fun c_18 => ?_) (fun c_18 => ?_)
    · have c_18 := i_eq.mp c_18
      refine Sf.k (decide_eq_true (i_eq.mpr (by omega))) ?_
      refine Sf.k (ok_in (by omega) (by omega)) ?_
      refine Sf.c (sX4_isDigit h_M6 ⟨by omega, by omega⟩) (fun r18 p_19 => ?_)
      obtain ⟨p_19a, p_19b⟩ := p_19
      refine Sf.i (fun c_20 => ?_) (fun c_20 => ?_)
      · have c_20 := i_eq.mp c_20
        refine Sf.k (decide_eq_true (i_eq.mpr (by omega))) ?_
        refine Sf.k (ok_in (by omega) (by omega)) ?_
        have n_21 : ((59 : Int32)).toInt = 59 := rfl
        refine Sf.i (fun c_22 => ?_) (fun c_22 => ?_)
        · have c_22 := i_eq.mp c_22
          have n_23 : ((4 : Int32)).toInt = 4 := rfl
          have w_24 : (rd M6 2 5).toInt = (rd M4 2 5).toInt := by rw [e_M6, rd_wj (by decide)]
          have w_25 : (rd M4 2 5).toInt = ((rd M 2 4)).toInt := by rw [e_M4, rd_we]
          have w_26 : (rd M6 2 7).toInt = ((0 : Int32)).toInt := by rw [e_M6, rd_we]
          have n_27 : ((0 : Int32)).toInt = 0 := rfl
          exact (sX4_nextToken_b143 h_M6 ⟨by omega, by omega⟩ ⟨by omega, by omega⟩ ⟨by omega, by omega⟩ ⟨by omega, by omega⟩ ⟨by omega, by omega⟩ ⟨by omega, by omega⟩)
        · have c_22 := i_ne c_22
          have n_28 : ((1 : Int32)).toInt = 1 := rfl
          have w_29 : (rd M6 2 5).toInt = (rd M4 2 5).toInt := by rw [e_M6, rd_wj (by decide)]
          have w_30 : (rd M4 2 5).toInt = ((rd M 2 4)).toInt := by rw [e_M4, rd_we]
          have w_31 : (rd M6 2 7).toInt = ((0 : Int32)).toInt := by rw [e_M6, rd_we]
          have n_32 : ((0 : Int32)).toInt = 0 := rfl
          exact (sX4_nextToken_b143 h_M6 ⟨by omega, by omega⟩ ⟨by omega, by omega⟩ ⟨by omega, by omega⟩ ⟨by omega, by omega⟩ ⟨by omega, by omega⟩ ⟨by omega, by omega⟩)
      · have c_20 := i_ne c_20
        refine Sf.m (sX4_takeNumber h_M6) (fun M30 _ h_M30 => ?_)
        have h_M30 : OKb (true, g) M30 := h_M30
        exact Sf.ok h_M30
    · have c_18 := i_ne c_18
      refine Sf.m (sX4_takeWord h_M6) (fun M33 _ h_M33 => ?_)
      have h_M33 : OKb (true, g) M33 := h_M33
      exact Sf.ok h_M33
  · have c_8 := i_nlt c_8
    have n_35 : ((0 : Int32)).toInt = 0 := rfl
    have z_36 : (0 : Int) ≤ ((0 : Int32)).toInt ∧ ((0 : Int32)).toInt ≤ 4 := ⟨by omega, by omega⟩
    refine Sf.b (fun M34 e_M34 => ?_)
    have h_M34 : OKb (true, g) M34 := by rw [e_M34]; exact h_M6.put rfl z_36
    exact Sf.ok h_M34
set_option maxHeartbeats 2000000 in
theorem sX4_nextToken_b8 {g : (Nat → Int × Int) × (Nat → Int × Int)} {ih8 : Mem → Option (Mem × Unit)} {M : Mem} {d8 : Nat} (h_M : OKb (true, g) M) (hih8 : ∀  (M : Mem), OKb (true, g) M → 600 - (rd M 2 4).toInt < d8 → Sf (ih8  M) (pM (true, g))) (hmu8 : 600 - (rd M 2 4).toInt ≤ d8) : Sf (mX4_nextToken_b8 2 ih8 M) (pM (true, g)) := by
  unfold mX4_nextToken_b8
  have b_1 : (0 : Int) ≤ (rd M 2 3).toInt ∧ (rd M 2 3).toInt ≤ 600 := h_M.at rfl
  have b_2 : (0 : Int) ≤ (rd M 2 4).toInt ∧ (rd M 2 4).toInt ≤ 600 := h_M.at rfl
  refine Sf.i (fun c_3 => ?_) (fun c_3 => ?_)
  · have c_3 := i_le.mp c_3
    exact (sX4_nextToken_b47 h_M)
  · have c_3 := i_nle c_3
    have b_4 : (1 : Int) ≤ (rd M 2 2).toInt ∧ (rd M 2 2).toInt ≤ 1 := h_M.at rfl
    have n_5 : ((1 : Int32)).toInt = 1 := rfl
    refine Sf.k (decide_eq_true (i_eq.mpr (by omega))) ?_
    refine Sf.k (ok_in (by omega) (by omega)) ?_
    have b_6 : (-128 : Int) ≤ (rd M 1 (((rd M 2 4)).toNatClampNeg)).toInt ∧ (rd M 1 (((rd M 2 4)).toNatClampNeg)).toInt ≤ 127 := h_M.at rfl
    refine Sf.c (sX4_isSpace h_M ⟨by omega, by omega⟩) (fun r39 p_7 => ?_)
    obtain ⟨p_7a, p_7b⟩ := p_7
    have n_8 : ((0 : Int32)).toInt = 0 := rfl
    refine Sf.i (fun c_9 => ?_) (fun c_9 => ?_)
    · have c_9 := i_eq.mp c_9
      exact (sX4_nextToken_b47 h_M)
    · have c_9 := i_ne c_9
      have n_10 : ((1 : Int32)).toInt = 1 := rfl
      try have a_11 : (((rd M 2 4) + (1 : Int32))).toInt = ((rd M 2 4)).toInt + ((1 : Int32)).toInt := i_add (by omega) (by omega)
      have z_12 : (0 : Int) ≤ (((rd M 2 4) + (1 : Int32))).toInt ∧ (((rd M 2 4) + (1 : Int32))).toInt ≤ 600 := ⟨by omega, by omega⟩
      refine Sf.b (fun M42 e_M42 => ?_)
      have h_M42 : OKb (true, g) M42 := by rw [e_M42]; exact h_M.put rfl z_12
      have w_13 : (rd M42 2 4).toInt = (((rd M 2 4) + (1 : Int32))).toInt := by rw [e_M42, rd_we]
      exact (hih8 _ h_M42 (by omega))
theorem sX4_nextToken_l8_n {g : (Nat → Int × Int) × (Nat → Int × Int)}    : ∀ (n : Nat)  (M : Mem) (h_M : OKb (true, g) M)     (hmu : 600 - (rd M 2 4).toInt < n), Sf (mX4_nextToken_l8 2 n  M) (pM (true, g)) := by
  intro n
  induction n with
  | zero => intro M h_M hmu; have bz0 : (0 : Int) ≤ (rd M 2 4).toInt ∧ (rd M 2 4).toInt ≤ 600 := h_M.at rfl; exfalso; omega
  | succ n IH => intro M h_M hmu; exact sX4_nextToken_b8  h_M     IH (by omega)
theorem sX4_nextToken_l8 {g : (Nat → Int × Int) × (Nat → Int × Int)}   {M : Mem}  (h_M : OKb (true, g) M)     (hmu : 600 - (rd M 2 4).toInt < 5000) : Sf (mX4_nextToken_l8 2 5000  M) (pM (true, g)) :=
  sX4_nextToken_l8_n   5000  M h_M     hmu
set_option maxHeartbeats 2000000 in
theorem sX4_nextToken {g : (Nat → Int × Int) × (Nat → Int × Int)} {M : Mem} (h_M : OKb (true, g) M) : Sf (mX4_nextToken 2 M) (pM (true, g)) := by
  unfold mX4_nextToken
  have b_1 : (0 : Int) ≤ (rd M 2 5).toInt ∧ (rd M 2 5).toInt ≤ 600 := h_M.at rfl
  have z_2 : (0 : Int) ≤ ((rd M 2 5)).toInt ∧ ((rd M 2 5)).toInt ≤ 600 := ⟨by omega, by omega⟩
  refine Sf.b (fun M1 e_M1 => ?_)
  have h_M1 : OKb (true, g) M1 := by rw [e_M1]; exact h_M.put rfl z_2
  have w_3 : (rd M1 2 4).toInt = ((rd M 2 5)).toInt := by rw [e_M1, rd_we]
  exact (sX4_nextToken_l8 h_M1 (by omega))
set_option maxHeartbeats 2000000 in
theorem sX4_errorIfNot {f : Bx} {x1 : Int32} {x2 : Int32} {M : Mem} (h_M : OKb f M) (hx1 : (2 : Int) ≤ (x1).toInt ∧ (x1).toInt ≤ 4) (hx2 : (0 : Int) ≤ (x2).toInt ∧ (x2).toInt ≤ 2) : Sf (mX4_errorIfNot 2 x1 x2 M) (pI (0) (2)) := by
  unfold mX4_errorIfNot
  have b_1 : (0 : Int) ≤ (rd M 2 6).toInt ∧ (rd M 2 6).toInt ≤ 4 := h_M.at rfl
  have n_2 : ((1 : Int32)).toInt = 1 := rfl
  refine Sf.i (fun c_3 => ?_) (fun c_3 => ?_)
  · have c_3 := i_eq.mp c_3
    have z_4 : (0 : Int) ≤ ((1 : Int32)).toInt ∧ ((1 : Int32)).toInt ≤ 2 := ⟨by omega, by omega⟩
    exact Sf.ok z_4
  · have c_3 := i_ne c_3
    refine Sf.i (fun c_5 => ?_) (fun c_5 => ?_)
    · have c_5 := i_eq.mp c_5
      have z_6 : (0 : Int) ≤ (x2).toInt ∧ (x2).toInt ≤ 2 := ⟨by omega, by omega⟩
      exact Sf.ok z_6
    · have c_5 := i_ne c_5
      have n_7 : ((2 : Int32)).toInt = 2 := rfl
      have z_8 : (0 : Int) ≤ ((2 : Int32)).toInt ∧ ((2 : Int32)).toInt ≤ 2 := ⟨by omega, by omega⟩
      exact Sf.ok z_8
set_option maxHeartbeats 2000000 in
theorem sX4_errorOfWord_b106 {f : Bx} {k0 : Nat} {k1 : Nat} {M : Mem} (hk1 : isP k1) (h_M : OKb f M) : Sf (mX4_errorOfWord_b106 k0 k1 M) (pI (0) (5)) := by
  unfold mX4_errorOfWord_b106
  have n_1 : ((5 : Int32)).toInt = 5 := rfl
  have z_2 : (0 : Int) ≤ ((5 : Int32)).toInt ∧ ((5 : Int32)).toInt ≤ 5 := ⟨by omega, by omega⟩
  exact Sf.ok z_2
set_option maxHeartbeats 2000000 in
theorem sX4_errorOfWord_b94 {f : Bx} {k0 : Nat} {k1 : Nat} {M : Mem} {x4 : Int32} {y0 : Int32} (hk1 : isP k1) (h_M : OKb f M) (hx4 : (0 : Int) ≤ (x4).toInt ∧ (x4).toInt ≤ 1) (hy0 : (0 : Int) ≤ (y0).toInt ∧ (y0).toInt ≤ 1) : Sf (mX4_errorOfWord_b94 k0 k1 M x4 y0) (pI (0) (5)) := by
  unfold mX4_errorOfWord_b94
  have n_1 : ((0 : Int32)).toInt = 0 := rfl
  refine Sf.i (fun c_2 => ?_) (fun c_2 => ?_)
  · have c_2 := i_eq.mp c_2
    refine Sf.i (fun c_3 => ?_) (fun c_3 => ?_)
    · have c_3 := i_eq.mp c_3
      have n_4 : ((0 : Int32)).toInt = 0 := rfl
      have z_5 : (0 : Int) ≤ ((0 : Int32)).toInt ∧ ((0 : Int32)).toInt ≤ 5 := ⟨by omega, by omega⟩
      exact Sf.ok z_5
    · have c_3 := i_ne c_3
      exact (sX4_errorOfWord_b106 hk1 h_M)
  · have c_2 := i_ne c_2
    exact (sX4_errorOfWord_b106 hk1 h_M)
set_option maxHeartbeats 2000000 in
theorem sX4_errorOfWord_b93 {f : Bx} {k0 : Nat} {k1 : Nat} {M : Mem} {x4 : Int32} (hk1 : isP k1) (h_M : OKb f M) (hx4 : (0 : Int) ≤ (x4).toInt ∧ (x4).toInt ≤ 1) : Sf (mX4_errorOfWord_b93 k0 k1 M x4) (pI (0) (5)) := by
  unfold mX4_errorOfWord_b93
  have n_1 : ((0 : Int32)).toInt = 0 := rfl
  exact (sX4_errorOfWord_b94 hk1 h_M ⟨by omega, by omega⟩ ⟨by omega, by omega⟩)
set_option maxHeartbeats 2000000 in
theorem sX4_errorOfWord_b71 {f : Bx} {k0 : Nat} {k1 : Nat} {M : Mem} {y0 : Int32} (hk1 : isP k1) (h_M : OKb f M) (hy0 : (0 : Int) ≤ (y0).toInt ∧ (y0).toInt ≤ 1) : Sf (mX4_errorOfWord_b71 k0 k1 M y0) (pI (0) (5)) := by
  unfold mX4_errorOfWord_b71
  refine Sf.i (fun c_1 => ?_) (fun c_1 => ?_)
  · skip
    have b_2 : (0 : Int) ≤ (rd M k1 10).toInt ∧ (rd M k1 10).toInt ≤ 8 := h_M.at (bx_P0 hk1)
    have n_3 : ((8 : Int32)).toInt = 8 := rfl
    refine Sf.i (fun c_4 => ?_) (fun c_4 => ?_)
    · have c_4 := i_lt.mp c_4
      exact (sX4_errorOfWord_b93 hk1 h_M ⟨by omega, by omega⟩)
    · have c_4 := i_nlt c_4
      have n_5 : ((1 : Int32)).toInt = 1 := rfl
      exact (sX4_errorOfWord_b94 hk1 h_M ⟨by omega, by omega⟩ ⟨by omega, by omega⟩)
  · skip
    exact (sX4_errorOfWord_b93 hk1 h_M ⟨by omega, by omega⟩)
set_option maxHeartbeats 2000000 in
theorem sX4_errorOfWord_b70 {f : Bx} {k0 : Nat} {k1 : Nat} {M : Mem} (hk1 : isP k1) (h_M : OKb f M) : Sf (mX4_errorOfWord_b70 k0 k1 M) (pI (0) (5)) := by
  unfold mX4_errorOfWord_b70
  have n_1 : ((0 : Int32)).toInt = 0 := rfl
  exact (sX4_errorOfWord_b71 hk1 h_M ⟨by omega, by omega⟩)
set_option maxHeartbeats 2000000 in
theorem sX4_errorOfWord_b39 {f : Bx} {k0 : Nat} {k1 : Nat} {M : Mem} {x2 : Int32} {y0 : Int32} (hk1 : isP k1) (h_M : OKb f M) (hx2 : (0 : Int) ≤ (x2).toInt ∧ (x2).toInt ≤ 1) (hy0 : (0 : Int) ≤ (y0).toInt ∧ (y0).toInt ≤ 1) : Sf (mX4_errorOfWord_b39 k0 k1 M x2 y0) (pI (0) (5)) := by
  unfold mX4_errorOfWord_b39
  have n_1 : ((0 : Int32)).toInt = 0 := rfl
  refine Sf.i (fun c_2 => ?_) (fun c_2 => ?_)
  · have c_2 := i_eq.mp c_2
    refine Sf.i (fun c_3 => ?_) (fun c_3 => ?_)
    · have c_3 := i_eq.mp c_3
      refine Sf.c (sX5_isBend h_M) (fun r9 p_4 => ?_)
      obtain ⟨p_4a, p_4b⟩ := p_4
      refine Sf.i (fun c_5 => ?_) (fun c_5 => ?_)
      · have c_5 := i_eq.mp c_5
        exact (sX4_errorOfWord_b70 hk1 h_M)
      · have c_5 := i_ne c_5
        refine Sf.c (sX1_bendCount hk1 h_M) (fun r17 p_6 => ?_)
        obtain ⟨p_6a, p_6b⟩ := p_6
        have n_7 : ((8 : Int32)).toInt = 8 := rfl
        refine Sf.i (fun c_8 => ?_) (fun c_8 => ?_)
        · have c_8 := i_lt.mp c_8
          exact (sX4_errorOfWord_b70 hk1 h_M)
        · have c_8 := i_nlt c_8
          have n_9 : ((1 : Int32)).toInt = 1 := rfl
          exact (sX4_errorOfWord_b71 hk1 h_M ⟨by omega, by omega⟩)
    · have c_3 := i_ne c_3
      have n_10 : ((4 : Int32)).toInt = 4 := rfl
      have z_11 : (0 : Int) ≤ ((4 : Int32)).toInt ∧ ((4 : Int32)).toInt ≤ 5 := ⟨by omega, by omega⟩
      exact Sf.ok z_11
  · have c_2 := i_ne c_2
    have n_12 : ((4 : Int32)).toInt = 4 := rfl
    have z_13 : (0 : Int) ≤ ((4 : Int32)).toInt ∧ ((4 : Int32)).toInt ≤ 5 := ⟨by omega, by omega⟩
    exact Sf.ok z_13
set_option maxHeartbeats 2000000 in
theorem sX4_errorOfWord_b38 {f : Bx} {k0 : Nat} {k1 : Nat} {M : Mem} {x2 : Int32} (hk1 : isP k1) (h_M : OKb f M) (hx2 : (0 : Int) ≤ (x2).toInt ∧ (x2).toInt ≤ 1) : Sf (mX4_errorOfWord_b38 k0 k1 M x2) (pI (0) (5)) := by
  unfold mX4_errorOfWord_b38
  have n_1 : ((0 : Int32)).toInt = 0 := rfl
  exact (sX4_errorOfWord_b39 hk1 h_M ⟨by omega, by omega⟩ ⟨by omega, by omega⟩)
set_option maxHeartbeats 2000000 in
theorem sX4_errorOfWord_b19 {f : Bx} {k0 : Nat} {k1 : Nat} {M : Mem} {y0 : Int32} (hk1 : isP k1) (h_M : OKb f M) (hy0 : (0 : Int) ≤ (y0).toInt ∧ (y0).toInt ≤ 1) : Sf (mX4_errorOfWord_b19 k0 k1 M y0) (pI (0) (5)) := by
  unfold mX4_errorOfWord_b19
  refine Sf.c (sX5_isBend h_M) (fun r3 p_1 => ?_)
  obtain ⟨p_1a, p_1b⟩ := p_1
  have n_2 : ((0 : Int32)).toInt = 0 := rfl
  refine Sf.i (fun c_3 => ?_) (fun c_3 => ?_)
  · have c_3 := i_eq.mp c_3
    exact (sX4_errorOfWord_b38 hk1 h_M ⟨by omega, by omega⟩)
  · have c_3 := i_ne c_3
    have b_4 : (0 : Int) ≤ (rd M k1 0).toInt ∧ (rd M k1 0).toInt ≤ 9 := h_M.at (bx_P0 hk1)
    refine Sf.i (fun c_5 => ?_) (fun c_5 => ?_)
    · have c_5 := i_eq.mp c_5
      have n_6 : ((1 : Int32)).toInt = 1 := rfl
      exact (sX4_errorOfWord_b39 hk1 h_M ⟨by omega, by omega⟩ ⟨by omega, by omega⟩)
    · have c_5 := i_ne c_5
      exact (sX4_errorOfWord_b38 hk1 h_M ⟨by omega, by omega⟩)
set_option maxHeartbeats 2000000 in
theorem sX4_errorOfWord_b18 {f : Bx} {k0 : Nat} {k1 : Nat} {M : Mem} (hk1 : isP k1) (h_M : OKb f M) : Sf (mX4_errorOfWord_b18 k0 k1 M) (pI (0) (5)) := by
  unfold mX4_errorOfWord_b18
  have n_1 : ((0 : Int32)).toInt = 0 := rfl
  exact (sX4_errorOfWord_b19 hk1 h_M ⟨by omega, by omega⟩)
set_option maxHeartbeats 2000000 in
theorem sX4_errorOfWord {f : Bx} {k0 : Nat} {k1 : Nat} {M : Mem} (hk1 : isP k1) (h_M : OKb f M) : Sf (mX4_errorOfWord k0 k1 M) (pI (0) (5)) := by
  unfold mX4_errorOfWord
  refine Sf.i (fun c_1 => ?_) (fun c_1 => ?_)
  · skip
    have b_2 : (0 : Int) ≤ (rd M k1 0).toInt ∧ (rd M k1 0).toInt ≤ 9 := h_M.at (bx_P0 hk1)
    have n_3 : ((0 : Int32)).toInt = 0 := rfl
    refine Sf.i (fun c_4 => ?_) (fun c_4 => ?_)
    · have c_4 := i_le.mp c_4
      exact (sX4_errorOfWord_b18 hk1 h_M)
    · have c_4 := i_nle c_4
      have n_5 : ((1 : Int32)).toInt = 1 := rfl
      exact (sX4_errorOfWord_b19 hk1 h_M ⟨by omega, by omega⟩)
  · skip
    exact (sX4_errorOfWord_b18 hk1 h_M)
set_option maxHeartbeats 2000000 in
theorem sX4_errorOfNumber_b74 {f : Bx} {k1 : Nat} {k2 : Nat} {M : Mem} {x5 : Int32} (hk2 : isP k2) (h_M : OKb f M) (hx5 : (0 : Int) ≤ (x5).toInt ∧ (x5).toInt ≤ 1) : Sf (mX4_errorOfNumber_b74 2 k1 k2 M x5) (pI (0) (3)) := by
  unfold mX4_errorOfNumber_b74
  have n_1 : ((0 : Int32)).toInt = 0 := rfl
  refine Sf.i (fun c_2 => ?_) (fun c_2 => ?_)
  · have c_2 := i_eq.mp c_2
    have n_3 : ((3 : Int32)).toInt = 3 := rfl
    have z_4 : (0 : Int) ≤ ((3 : Int32)).toInt ∧ ((3 : Int32)).toInt ≤ 3 := ⟨by omega, by omega⟩
    exact Sf.ok z_4
  · have c_2 := i_ne c_2
    have n_5 : ((0 : Int32)).toInt = 0 := rfl
    have z_6 : (0 : Int) ≤ ((0 : Int32)).toInt ∧ ((0 : Int32)).toInt ≤ 3 := ⟨by omega, by omega⟩
    exact Sf.ok z_6
set_option maxHeartbeats 2000000 in
theorem sX4_errorOfNumber_b47 {f : Bx} {k1 : Nat} {k2 : Nat} {M : Mem} {x2 : Int32} {y0 : Int32} (hk2 : isP k2) (h_M : OKb f M) (hx2 : (0 : Int) ≤ (x2).toInt ∧ (x2).toInt ≤ 2) (hy0 : (0 : Int) ≤ (y0).toInt ∧ (y0).toInt ≤ 1) : Sf (mX4_errorOfNumber_b47 2 k1 k2 M x2 y0) (pI (0) (3)) := by
  unfold mX4_errorOfNumber_b47
  refine Sf.i (fun c_1 => ?_) (fun c_1 => ?_)
  · skip
    have n_2 : ((0 : Int32)).toInt = 0 := rfl
    refine Sf.i (fun c_3 => ?_) (fun c_3 => ?_)
    · have c_3 := i_eq.mp c_3
      refine Sf.c (sX1_lastBackRatio hk2 h_M) (fun r14 p_4 => ?_)
      obtain ⟨p_4a, p_4b⟩ := p_4
      refine Sf.i (fun c_5 => ?_) (fun c_5 => ?_)
      · have c_5 := i_lt.mp c_5
        exact (sX4_errorOfNumber_b74 hk2 h_M ⟨by omega, by omega⟩)
      · have c_5 := i_nlt c_5
        have n_6 : ((0 : Int32)).toInt = 0 := rfl
        exact (sX4_errorOfNumber_b74 hk2 h_M ⟨by omega, by omega⟩)
    · have c_3 := i_ne c_3
      exact (sX4_errorOfNumber_b74 hk2 h_M ⟨by omega, by omega⟩)
  · skip
    exact (sX4_errorOfNumber_b74 hk2 h_M ⟨by omega, by omega⟩)
set_option maxHeartbeats 2000000 in
theorem sX4_errorOfNumber {f : Bx} {k1 : Nat} {k2 : Nat} {x2 : Int32} {M : Mem} (hk2 : isP k2) (h_M : OKb f M) (hx2 : (0 : Int) ≤ (x2).toInt ∧ (x2).toInt ≤ 2) : Sf (mX4_errorOfNumber 2 k1 k2 x2 M) (pI (0) (3)) := by
  unfold mX4_errorOfNumber
  have n_1 : ((3 : Int32)).toInt = 3 := rfl
  have n_2 : ((0 : Int32)).toInt = 0 := rfl
  refine Sf.c (sX4_errorIfNot h_M ⟨by omega, by omega⟩ ⟨by omega, by omega⟩) (fun r2 p_3 => ?_)
  obtain ⟨p_3a, p_3b⟩ := p_3
  have n_4 : ((0 : Int32)).toInt = 0 := rfl
  refine Sf.i (fun c_5 => ?_) (fun c_5 => ?_)
  · have c_5 := i_eq.mp c_5
    refine Sf.i (fun c_6 => ?_) (fun c_6 => ?_)
    · have c_6 := i_eq.mp c_6
      refine Sf.c sX5_allows (fun r18 p_7 => ?_)
      have p_7 : (0 : Int) ≤ (r18).toInt ∧ (r18).toInt ≤ 1 := p_7.1
      exact (sX4_errorOfNumber_b47 hk2 h_M ⟨by omega, by omega⟩ ⟨by omega, by omega⟩)
    · have c_6 := i_ne c_6
      refine Sf.k (ok_in (by omega) (by omega)) ?_
      refine Sf.c sX5_allowsBehind (fun r8 p_8 => ?_)
      have p_8 : (0 : Int) ≤ (r8).toInt ∧ (r8).toInt ≤ 1 := p_8
      exact (sX4_errorOfNumber_b47 hk2 h_M ⟨by omega, by omega⟩ ⟨by omega, by omega⟩)
  · have c_5 := i_ne c_5
    have z_9 : (0 : Int) ≤ (r2).toInt ∧ (r2).toInt ≤ 3 := ⟨by omega, by omega⟩
    exact Sf.ok z_9
theorem sX4_accept_b139 {f : Bx} {k1 : Nat} {k2 : Nat} {y1 : Int32} {y2 : Int32} {M : Mem} (hk2 : isP k2) (h_M : OKb f M) (hy1 : (0 : Int) ≤ (y1).toInt ∧ (y1).toInt ≤ 9999) (hy2 : (0 : Int) ≤ (y2).toInt ∧ (y2).toInt ≤ 1) : Sf (mX4_accept_b139 2 k1 k2 y1 y2 M) (pM f) := by
  unfold mX4_accept_b139
  refine Sf.m (sX1_addLeg hk2 h_M ⟨by omega, by omega⟩ ⟨by omega, by omega⟩) (fun M12 _ h_M12 => ?_)
  exact Sf.ok h_M12
abbrev gT (s : Nat → Int × Int) : (Nat → Int × Int) × (Nat → Int × Int) := (fun _ => bT, s)
abbrev fT (s : Nat → Int × Int) : Bx := (false, gT s)
abbrev sB (s : Nat → Int × Int) : Nat → Int × Int := fun i => if i = 1 then (0, 600) else s i
theorem gT_nums {b : Bool} {g : Nat → Int × Int} {s : Nat → Int × Int} {M : Mem} (h : OKb (b, g, s) M) : OKb (b, gT s) M := h.nums (fun _ => i_rng _)
/-- the numbers read so far of a word's -/
def Nw (w : Nat) (M : Mem) (n : Int) : Prop := ∀ j : Nat, (j : Int) < n → 0 ≤ (rd M 3 j).toInt ∧ (rd M 3 j).toInt ≤ 9999 ∧ (w = 10 → (rd M 3 j).toInt ≤ 99)
theorem al_rng {w : Nat} {x v : Int32} (h : alo w x ≤ v.toInt ∧ v.toInt ≤ ahi w x) : 0 ≤ v.toInt ∧ v.toInt ≤ 9999 ∧ (w = 10 → v.toInt ≤ 99) := by
  have h0 := wF0_b w
  have h1 := wF1_b w
  have h2 := wF2_b w
  have h3 := wF3_b w
  refine ⟨?_, ?_, fun e => ?_⟩
  · have := h.1
    unfold alo at this
    split at this <;> omega
  · have := h.2
    unfold ahi at this
    split at this
    · omega
    · split at this <;> omega
  · subst e
    have := h.2
    unfold ahi at this
    have e1 : (wF1.getD 10 0).toInt = 99 := by decide
    have e2 : (wF2.getD 10 0).toInt = 99 := by decide
    have e3 : (wF3.getD 10 0).toInt = 99 := by decide
    rw [e1, e2, e3] at this
    split at this
    · exact this
    · split at this <;> exact this
theorem sX4_accept {f : Bx} {k1 : Nat} {k2 : Nat} {M : Mem} (hk2 : isP k2) (h_M : OKb f M) (hN : Nw k1 M 3) : Sf (mX4_accept 2 k1 k2 M) (pM f) := by
  unfold mX4_accept
  have N0 : (0 : Int) ≤ (rd M (2 + 1) ((0 : Int32)).toNatClampNeg).toInt ∧ (rd M (2 + 1) ((0 : Int32)).toNatClampNeg).toInt ≤ 9999 ∧ (k1 = 10 → (rd M (2 + 1) ((0 : Int32)).toNatClampNeg).toInt ≤ 99) := hN 0 (by decide)
  have N1 : (0 : Int) ≤ (rd M (2 + 1) ((1 : Int32)).toNatClampNeg).toInt ∧ (rd M (2 + 1) ((1 : Int32)).toNatClampNeg).toInt ≤ 9999 ∧ (k1 = 10 → (rd M (2 + 1) ((1 : Int32)).toNatClampNeg).toInt ≤ 99) := hN 1 (by decide)
  have N2 : (0 : Int) ≤ (rd M (2 + 1) ((2 : Int32)).toNatClampNeg).toInt ∧ (rd M (2 + 1) ((2 : Int32)).toNatClampNeg).toInt ≤ 9999 ∧ (k1 = 10 → (rd M (2 + 1) ((2 : Int32)).toNatClampNeg).toInt ≤ 99) := hN 2 (by decide)
  have n0 : ((0 : Int32)).toInt = 0 := rfl
  have n1 : ((1 : Int32)).toInt = 1 := rfl
  have n2 : ((2 : Int32)).toInt = 2 := rfl
  have n_2 : (((-1) : Int32)).toInt = -1 := rfl
  refine Sf.c (sX5_toolNumber h_M) (fun r2 p_1 => ?_)
  obtain ⟨p_1a, p_1b⟩ := p_1
  refine Sf.i (fun c_3 => ?_) (fun c_3 => ?_)
  · refine Sf.i (fun c_4 => ?_) (fun c_4 => ?_)
    · refine Sf.k (ok_in (by omega) (by omega)) ?_
      refine Sf.k (ok_in (by omega) (by omega)) ?_
      refine Sf.k (ok_in (by omega) (by omega)) ?_
      refine Sf.m (sX1_putSheet hk2 h_M) (fun M29 _ p_8 => ?_)
      exact Sf.ok p_8.1
    · refine Sf.i (fun c_9 => ?_) (fun c_9 => ?_)
      · have q0 := N0.2.2 c_9
        have q1 := N1.2.2 c_9
        have q2 := N2.2.2 c_9
        refine Sf.k (ok_in (by omega) (by omega)) ?_
        refine Sf.k (ok_in (by omega) (by omega)) ?_
        refine Sf.k (ok_in (by omega) (by omega)) ?_
        refine Sf.m (sX1_putCosts hk2 h_M ⟨N0.1, q0⟩ ⟨N1.1, q1⟩ ⟨N2.1, q2⟩) (fun M23 _ p_13 => ?_)
        exact Sf.ok p_13.1
      · refine Sf.i (fun c_14 => ?_) (fun c_14 => ?_)
        · refine Sf.k (ok_in (by omega) (by omega)) ?_
          refine Sf.k (ok_in (by omega) (by omega)) ?_
          refine Sf.m (sX1_addBack hk2 h_M) (fun M17 _ h_M17 => ?_)
          exact Sf.ok h_M17
        · refine Sf.k (ok_in (by omega) (by omega)) ?_
          refine Sf.i (fun c_19 => ?_) (fun c_19 => ?_)
          · exact (sX4_accept_b139 hk2 h_M ⟨N0.1, N0.2.1⟩ (by decide))
          · exact (sX4_accept_b139 hk2 h_M ⟨N0.1, N0.2.1⟩ (by decide))
  · have c_3 := i_ne c_3
    refine Sf.k (ok_in (by omega) (by omega)) ?_
    refine Sf.k (ok_in (by omega) (by omega)) ?_
    refine Sf.m (sX1_putTool hk2 h_M ⟨by omega, by omega⟩) (fun M34 _ h_M34 => ?_)
    exact Sf.ok h_M34
theorem sX5_allowsBehind2 {k : Nat} {x1 x2 x3 : Int32} {M : Mem} : Sf (mX5_allowsBehind k x1 x2 x3 M) (fun r => r = 0 ∨ (alo k x2 ≤ x3.toInt ∧ x3.toInt ≤ ahi k x2)) := by
  unfold mX5_allowsBehind
  refine Sf.c sX5_allows (fun r p => ?_)
  refine Sf.i (fun _ => Sf.ok (Or.inl rfl)) (fun c => ?_)
  have c := i_ne c
  have h2 : alo k x2 ≤ x3.toInt ∧ x3.toInt ≤ ahi k x2 := p.2.resolve_left c
  refine Sf.i (fun _ => Sf.i (fun _ => Sf.ok (Or.inl rfl)) (fun _ => ?_)) (fun _ => ?_)
  · exact Sf.ok (Or.inr h2)
  · exact Sf.ok (Or.inr h2)
theorem sX4_errorOfNumber_b74' {k1 k2 : Nat} {x5 : Int32} {M : Mem} {R : Prop} (h : x5 = 0 ∨ R) : Sf (mX4_errorOfNumber_b74 2 k1 k2 M x5) (fun r => (0 ≤ r.toInt ∧ r.toInt ≤ 3) ∧ (r = 0 → R)) := by
  unfold mX4_errorOfNumber_b74
  exact Sf.i (fun _ => Sf.ok ⟨by decide, fun e => absurd e (by decide)⟩) (fun c => Sf.ok ⟨by decide, fun _ => h.resolve_left c⟩)
theorem sX4_errorOfNumber_b47' {f : Bx} {k1 k2 : Nat} {x2 y0 : Int32} {M : Mem} {R : Prop} (hk2 : isP k2) (h_M : OKb f M) (h : y0 = 0 ∨ R) : Sf (mX4_errorOfNumber_b47 2 k1 k2 M x2 y0) (fun r => (0 ≤ r.toInt ∧ r.toInt ≤ 3) ∧ (r = 0 → R)) := by
  unfold mX4_errorOfNumber_b47
  refine Sf.i (fun _ => Sf.i (fun _ => ?_) (fun _ => sX4_errorOfNumber_b74' h)) (fun _ => sX4_errorOfNumber_b74' h)
  refine Sf.c (sX1_lastBackRatio hk2 h_M) (fun r _ => ?_)
  exact Sf.i (fun _ => sX4_errorOfNumber_b74' h) (fun _ => sX4_errorOfNumber_b74' (Or.inl rfl))
theorem sX4_errorOfNumber' {f : Bx} {k1 k2 : Nat} {x2 : Int32} {M : Mem} (hk2 : isP k2) (h_M : OKb f M) : Sf (mX4_errorOfNumber 2 k1 k2 x2 M) (fun r => (0 ≤ r.toInt ∧ r.toInt ≤ 3) ∧ (r = 0 → alo k1 x2 ≤ (rd M 2 7).toInt ∧ (rd M 2 7).toInt ≤ ahi k1 x2)) := by
  unfold mX4_errorOfNumber
  refine Sf.c (sX4_errorIfNot h_M (by decide) (by decide)) (fun r p => ?_)
  refine Sf.i (fun _ => ?_) (fun c => Sf.ok ⟨⟨p.1, by have := p.2; omega⟩, fun e => absurd e c⟩)
  refine Sf.i (fun c2 => ?_) (fun _ => ?_)
  · refine Sf.c sX5_allows (fun r2 p2 => sX4_errorOfNumber_b47' hk2 h_M ?_)
    rw [c2]
    exact p2.2.imp (fun e => i_eq.mpr e) id
  · refine Sf.k (ok_in (by decide) (by decide)) ?_
    exact Sf.c sX5_allowsBehind2 (fun r2 p2 => sX4_errorOfNumber_b47' hk2 h_M p2)
set_option maxHeartbeats 2000000 in
theorem sX4_readStatement_b148 {s : Nat → Int × Int} {k1 : Nat} {x3 : Int32} {M : Mem} (hk1 : isP k1) (h_M : OKb (true, gT s) M) (hx3 : (0 : Int) ≤ (x3).toInt ∧ (x3).toInt ≤ 5) : Sf (mX4_readStatement_b148 2 k1 x3 M) (pM (true, gT s)) := by
  unfold mX4_readStatement_b148
  have z_1 : (0 : Int) ≤ (x3).toInt ∧ (x3).toInt ≤ 5 := ⟨by omega, by omega⟩
  refine Sf.b (fun M8 e_M8 => ?_)
  have h_M8 : OKb (true, gT s) M8 := by rw [e_M8]; exact h_M.put rfl z_1
  have w_2 : (rd M8 2 4).toInt = (rd M 2 4).toInt := by rw [e_M8, rd_wj (by decide)]
  have b_3 : (0 : Int) ≤ (rd M 2 4).toInt ∧ (rd M 2 4).toInt ≤ 600 := h_M.at rfl
  have z_4 : (-1 : Int) ≤ ((rd M8 2 4)).toInt ∧ ((rd M8 2 4)).toInt ≤ 600 := ⟨by omega, by omega⟩
  refine Sf.b (fun M10 e_M10 => ?_)
  have h_M10 : OKb (true, gT s) M10 := by rw [e_M10]; exact h_M8.put rfl z_4
  exact Sf.ok h_M10
set_option maxHeartbeats 2000000 in
theorem sX4_readStatement_b131 {s : Nat → Int × Int} {k1 : Nat} {x3 : Int32} {M : Mem} (hk1 : isP k1) (h_M : OKb (true, gT s) M) (hx3 : (0 : Int) ≤ (x3).toInt ∧ (x3).toInt ≤ 2) : Sf (mX4_readStatement_b131 2 k1 x3 M) (pM (true, gT s)) := by
  unfold mX4_readStatement_b131
  have n_1 : ((0 : Int32)).toInt = 0 := rfl
  refine Sf.i (fun c_2 => ?_) (fun c_2 => ?_)
  · have c_2 := i_eq.mp c_2
    exact (sX4_readStatement_b148 hk1 h_M ⟨by omega, by omega⟩)
  · have c_2 := i_ne c_2
    exact (sX4_readStatement_b148 hk1 h_M ⟨by omega, by omega⟩)
set_option maxHeartbeats 2000000 in
theorem sX4_readStatement_b110 {s : Nat → Int × Int} {k1 : Nat} {ih55 : Int32 → Int32 → Mem → Option (Mem × Unit)} {x3 : Int32} {x4 : Int32} {M : Mem} {d55 : Nat} (hk1 : isP k1) (h_M : OKb (true, gT s) M) (hx3 : (0 : Int) ≤ (x3).toInt ∧ (x3).toInt ≤ 2) (hx4 : (0 : Int) ≤ (x4).toInt ∧ (x4).toInt ≤ 2) (hih55 : ∀ (yx3 : Int32) (yx4 : Int32) (M : Mem), OKb (true, gT s) M → ((0 : Int) ≤ (yx3).toInt ∧ (yx3).toInt ≤ 2) → ((0 : Int) ≤ (yx4).toInt ∧ (yx4).toInt ≤ 3) → 3 - (yx4).toInt < d55 → Sf (ih55 yx3 yx4 M) (pM (true, gT s))) (hmu55 : 3 - (x4).toInt ≤ d55) : Sf (mX4_readStatement_b110 2 k1 ih55 x3 x4 M) (pM (true, gT s)) := by
  unfold mX4_readStatement_b110
  have n_1 : ((1 : Int32)).toInt = 1 := rfl
  try have a_2 : ((x4 + (1 : Int32))).toInt = (x4).toInt + ((1 : Int32)).toInt := i_add (by omega) (by omega)
  refine Sf.b (fun x4_110 e_x4_110 => ?_)
  have d_x4_110 := congrArg Int32.toInt e_x4_110
  exact (hih55 _ _ _ h_M ⟨by omega, by omega⟩ ⟨by omega, by omega⟩ (by omega))
set_option maxHeartbeats 2000000 in
theorem sX4_readStatement_b55 {s : Nat → Int × Int} {k1 : Nat} {ih55 : Int32 → Int32 → Mem → Option (Mem × Unit)} {x3 : Int32} {x4 : Int32} {M : Mem} {d55 : Nat} (hk1 : isP k1) (h_M : OKb (true, gT s) M) (hx3 : (0 : Int) ≤ (x3).toInt ∧ (x3).toInt ≤ 2) (hx4 : (0 : Int) ≤ (x4).toInt ∧ (x4).toInt ≤ 3) (hih55 : ∀ (yx3 : Int32) (yx4 : Int32) (M : Mem), OKb (true, gT s) M → ((0 : Int) ≤ (yx3).toInt ∧ (yx3).toInt ≤ 2) → ((0 : Int) ≤ (yx4).toInt ∧ (yx4).toInt ≤ 3) → 3 - (yx4).toInt < d55 → Sf (ih55 yx3 yx4 M) (pM (true, gT s))) (hmu55 : 3 - (x4).toInt ≤ d55) : Sf (mX4_readStatement_b55 2 k1 ih55 x3 x4 M) (pM (true, gT s)) := by
  unfold mX4_readStatement_b55
  have n_1 : ((3 : Int32)).toInt = 3 := rfl
  refine Sf.i (fun c_2 => ?_) (fun c_2 => ?_)
  · have c_2 := i_le.mp c_2
    have n_3 : ((0 : Int32)).toInt = 0 := rfl
    refine Sf.i (fun c_4 => ?_) (fun c_4 => ?_)
    · have c_4 := i_eq.mp c_4
      refine Sf.m (sX4_nextToken h_M) (fun M14 _ h_M14 => ?_)
      have h_M14 : OKb (true, gT s) M14 := h_M14
      have n_6 : ((4 : Int32)).toInt = 4 := rfl
      have n_7 : ((0 : Int32)).toInt = 0 := rfl
      refine Sf.c (sX4_errorIfNot h_M14 ⟨by omega, by omega⟩ ⟨by omega, by omega⟩) (fun r16 p_8 => ?_)
      obtain ⟨p_8a, p_8b⟩ := p_8
      exact (sX4_readStatement_b131 hk1 h_M14 ⟨by omega, by omega⟩)
    · have c_4 := i_ne c_4
      exact (sX4_readStatement_b131 hk1 h_M ⟨by omega, by omega⟩)
  · have c_2 := i_nle c_2
    refine Sf.k (ok_in (by omega) (by omega)) ?_
    refine Sf.b (fun M20 e_M20 => ?_)
    have h_M20 : OKb (true, gT s) M20 := by rw [e_M20]; exact h_M.put rfl (i_rng _)
    have n_9 : ((0 : Int32)).toInt = 0 := rfl
    refine Sf.i (fun c_10 => ?_) (fun c_10 => ?_)
    · have c_10 := i_eq.mp c_10
      exact (sX4_readStatement_b110 hk1 h_M20 ⟨by omega, by omega⟩ ⟨by omega, by omega⟩ hih55 (by omega))
    · have c_10 := i_ne c_10
      exact (sX4_readStatement_b110 hk1 h_M20 ⟨by omega, by omega⟩ ⟨by omega, by omega⟩ hih55 (by omega))
theorem sX4_readStatement_l55_n {s : Nat → Int × Int} {k1 : Nat} (hk1 : isP k1)   : ∀ (n : Nat) (x3 : Int32) (x4 : Int32) (M : Mem) (h_M : OKb (true, gT s) M) (hx3 : (0 : Int) ≤ (x3).toInt ∧ (x3).toInt ≤ 2) (hx4 : (0 : Int) ≤ (x4).toInt ∧ (x4).toInt ≤ 3)    (hmu : 3 - (x4).toInt < n), Sf (mX4_readStatement_l55 2 k1 n x3 x4 M) (pM (true, gT s)) := by
  intro n
  induction n with
  | zero => intro x3 x4 M h_M hx3 hx4 hmu; exfalso; omega
  | succ n IH => intro x3 x4 M h_M hx3 hx4 hmu; exact sX4_readStatement_b55 hk1 h_M hx3 hx4    IH (by omega)
theorem sX4_readStatement_l55 {s : Nat → Int × Int} {k1 : Nat} (hk1 : isP k1) {x3 : Int32} {x4 : Int32} {M : Mem}  (h_M : OKb (true, gT s) M) (hx3 : (0 : Int) ≤ (x3).toInt ∧ (x3).toInt ≤ 2) (hx4 : (0 : Int) ≤ (x4).toInt ∧ (x4).toInt ≤ 3)    (hmu : 3 - (x4).toInt < 5000) : Sf (mX4_readStatement_l55 2 k1 5000 x3 x4 M) (pM (true, gT s)) :=
  sX4_readStatement_l55_n hk1  5000 _ _ M h_M hx3 hx4    hmu
set_option maxHeartbeats 2000000 in
theorem sX4_readStatement_b51 {s : Nat → Int × Int} {k1 : Nat} {y0 : Int32} {M : Mem} (hk1 : isP k1) (h_M : OKb (true, gT s) M) (hy0 : (0 : Int) ≤ (y0).toInt ∧ (y0).toInt ≤ 2) : Sf (mX4_readStatement_b51 2 k1 y0 M) (pM (true, gT s)) := by
  unfold mX4_readStatement_b51
  have n_1 : ((0 : Int32)).toInt = 0 := rfl
  exact (sX4_readStatement_l55 hk1 h_M ⟨by omega, by omega⟩ ⟨by omega, by omega⟩ (by omega))
set_option maxHeartbeats 2000000 in
theorem sX4_readStatement_b32 {s : Nat → Int × Int} {k1 : Nat} {M : Mem} (hk1 : isP k1) (h_M : OKb (true, gT s) M) : Sf (mX4_readStatement_b32 2 k1 M) (pM (true, gT s)) := by
  unfold mX4_readStatement_b32
  have n_1 : ((2 : Int32)).toInt = 2 := rfl
  refine Sf.c (sX4_errorIfNot h_M ⟨by omega, by omega⟩ ⟨by omega, by omega⟩) (fun r3 p_2 => ?_)
  obtain ⟨p_2a, p_2b⟩ := p_2
  exact (sX4_readStatement_b51 hk1 h_M ⟨by omega, by omega⟩)
/-- the next token: the numbers stay as they are -/
theorem sX4_nextToken' {s : Nat → Int × Int} {M : Mem} (h : OKb (true, gT s) M) : Sf (mX4_nextToken 2 M) (fun q => OKb (true, gT s) q.1 ∧ ∀ j, (rd q.1 3 j).toInt = (rd M 3 j).toInt) := by
  have h2 : OKb (true, (fun j => ((rd M 3 j).toInt, (rd M 3 j).toInt)), s) M := h.nums (fun j => ⟨by show (rd M 3 j).toInt ≤ _; omega, by show _ ≤ (rd M 3 j).toInt; omega⟩)
  refine Sf.mono (sX4_nextToken h2) (fun q hq => ⟨gT_nums hq, fun j => ?_⟩)
  have h3 : (rd M 3 j).toInt ≤ (rd q.1 3 j).toInt ∧ (rd q.1 3 j).toInt ≤ (rd M 3 j).toInt := hq 3 j
  omega
theorem sX4_readStatement_b131v1 {s : Nat → Int × Int} {k1 : Nat} {w2 : Nat} {x3 : Int32} {M : Mem} (hk1 : isP k1) (h_M : OKb (true, gT s) M) (hx3 : (0 : Int) ≤ (x3).toInt ∧ (x3).toInt ≤ 5) (hN : x3 = 0 → Nw w2 M 3) : Sf (mX4_readStatement_b131v1 2 k1 w2 x3 M) (pM (true, gT s)) := by
  unfold mX4_readStatement_b131v1
  refine Sf.i (fun c => ?_) (fun _ => sX4_readStatement_b148 hk1 h_M hx3)
  refine Sf.m (sX4_accept hk1 h_M (hN c)) (fun M37 _ h => ?_)
  exact Sf.ok h

theorem Nw.put {w : Nat} {M : Mem} {n : Int} {x v : Int32} (h : Nw w M n) (hx : 0 ≤ x.toInt ∧ x.toInt = n) (hv : 0 ≤ v.toInt ∧ v.toInt ≤ 9999 ∧ (w = 10 → v.toInt ≤ 99)) : Nw w (wr M (2 + 1) x.toNatClampNeg v) (n + 1) := by
  intro j hj
  have hx2 : x.toNatClampNeg = x.toInt.toNat := i_clamp
  by_cases e : j = x.toNatClampNeg
  · subst e
    have e1 : rd (wr M (2 + 1) x.toNatClampNeg v) 3 x.toNatClampNeg = v := rd_we
    rw [e1]; exact hv
  · have e1 : rd (wr M (2 + 1) x.toNatClampNeg v) 3 j = rd M 3 j := rd_wj e
    rw [e1]
    exact h j (by omega)
theorem sX4_readStatement_b55v1 {s : Nat → Int × Int} {k1 : Nat} {w2 : Nat} {ih55v1 : Int32 → Int32 → Mem → Option (Mem × Unit)} {x3 : Int32} {x4 : Int32} {M : Mem} {d : Nat} (hk1 : isP k1) (h_M : OKb (true, gT s) M) (hx3 : (0 : Int) ≤ (x3).toInt ∧ (x3).toInt ≤ 5) (hx4 : (0 : Int) ≤ (x4).toInt ∧ (x4).toInt ≤ 3) (hN : x3 = 0 → Nw w2 M x4.toInt) (ih : ∀ (y3 y4 : Int32) (M : Mem), OKb (true, gT s) M → (0 : Int) ≤ (y3).toInt ∧ (y3).toInt ≤ 5 → (0 : Int) ≤ (y4).toInt ∧ (y4).toInt ≤ 3 → (y3 = 0 → Nw w2 M y4.toInt) → 3 - y4.toInt < d → Sf (ih55v1 y3 y4 M) (pM (true, gT s))) (hmu : 3 - x4.toInt ≤ d) : Sf (mX4_readStatement_b55v1 2 k1 w2 ih55v1 x3 x4 M) (pM (true, gT s)) := by
  unfold mX4_readStatement_b55v1
  have n3 : ((3 : Int32)).toInt = 3 := rfl
  have n1 : ((1 : Int32)).toInt = 1 := rfl
  have n0 : ((0 : Int32)).toInt = 0 := rfl
  refine Sf.i (fun c => ?_) (fun c => ?_)
  · have c := i_le.mp c
    have e4 : x4.toInt = 3 := by omega
    rw [e4] at hN
    refine Sf.i (fun c3 => ?_) (fun c3 => ?_)
    · refine Sf.m (sX4_nextToken' h_M) (fun M40 _ p => ?_)
      refine Sf.c (sX4_errorIfNot p.1 (by decide) (by decide)) (fun r pr => ?_)
      refine sX4_readStatement_b131v1 hk1 p.1 ⟨pr.1, by have := pr.2; omega⟩ (fun _ => ?_)
      intro j hj
      have := hN c3 j hj
      have e : (rd M40 3 j).toInt = (rd M 3 j).toInt := p.2 j
      rw [e]; exact this
    · exact sX4_readStatement_b131v1 hk1 h_M hx3 hN
  · have c := i_nle c
    refine Sf.k (ok_in (by omega) (by omega)) ?_
    refine Sf.b (fun M46 e46 => ?_)
    have h46 : OKb (true, gT s) M46 := by rw [e46]; exact h_M.put rfl (i_rng _)
    have hN46 : x3 = 0 → Nw w2 M46 (x4.toInt + 1) := fun e => by rw [e46]; exact (hN e).put ⟨hx4.1, rfl⟩ ⟨by decide, by decide, fun _ => by decide⟩
    have e5 : (x4 + 1).toInt = x4.toInt + 1 := (i_add (by omega) (by omega)).trans (by rw [n1])
    have step : ∀ (y3 : Int32) (M : Mem), OKb (true, gT s) M → (0 : Int) ≤ (y3).toInt ∧ (y3).toInt ≤ 5 → (y3 = 0 → Nw w2 M (x4.toInt + 1)) → Sf (mX4_readStatement_b110v1 2 k1 w2 ih55v1 y3 x4 M) (pM (true, gT s)) := by
      intro y3 M h hy hn
      unfold mX4_readStatement_b110v1
      refine Sf.b (fun v ev => ?_)
      rw [ev]
      exact ih y3 _ M h hy (by rw [e5]; omega) (by rw [e5]; exact hn) (by rw [e5]; omega)
    refine Sf.i (fun c3 => ?_) (fun c3 => step x3 M46 h46 hx3 hN46)
    refine Sf.c sX5_numberCount (fun r50 _ => ?_)
    refine Sf.i (fun _ => step x3 M46 h46 hx3 hN46) (fun _ => ?_)
    refine Sf.m (sX4_nextToken' h46) (fun M55 _ p => ?_)
    refine Sf.c (sX4_errorOfNumber' hk1 p.1) (fun r57 p57 => ?_)
    refine Sf.k (ok_in (by omega) (by omega)) ?_
    refine Sf.b (fun M61 e61 => ?_)
    have h61 : OKb (true, gT s) M61 := by rw [e61]; exact p.1.put rfl (i_rng _)
    refine step r57 M61 h61 ⟨p57.1.1, by have := p57.1.2; omega⟩ (fun e => ?_)
    rw [e61]
    have hv := al_rng (p57.2 e)
    refine Nw.put (M := M55) (fun j hj => ?_) ⟨hx4.1, rfl⟩ hv
    have e7 : (rd M55 3 j).toInt = (rd M46 3 j).toInt := p.2 j
    rw [e7]
    exact hN46 c3 j (by omega)
theorem sX4_readStatement_l55v1 {s : Nat → Int × Int} {k1 : Nat} {w2 : Nat} (hk1 : isP k1) : ∀ (n : Nat) (x3 x4 : Int32) (M : Mem) (_ : OKb (true, gT s) M) (_ : (0 : Int) ≤ (x3).toInt ∧ (x3).toInt ≤ 5) (_ : (0 : Int) ≤ (x4).toInt ∧ (x4).toInt ≤ 3) (_ : x3 = 0 → Nw w2 M x4.toInt) (_ : 3 - x4.toInt < n), Sf (mX4_readStatement_l55v1 2 k1 w2 n x3 x4 M) (pM (true, gT s)) := by
  intro n
  induction n with
  | zero => intro x3 x4 M h h3 h4 hN hmu; exfalso; omega
  | succ n IH => intro x3 x4 M h h3 h4 hN hmu; exact sX4_readStatement_b55v1 hk1 h h3 h4 hN IH (by omega)
theorem sX4_readStatement_b51v1 {s : Nat → Int × Int} {k1 : Nat} {w2 : Nat} {y0 : Int32} {M : Mem} (hk1 : isP k1) (h_M : OKb (true, gT s) M) (hy0 : (0 : Int) ≤ (y0).toInt ∧ (y0).toInt ≤ 5) : Sf (mX4_readStatement_b51v1 2 k1 w2 y0 M) (pM (true, gT s)) := by
  unfold mX4_readStatement_b51v1
  exact sX4_readStatement_l55v1 hk1 5000 y0 0 M h_M hy0 (by decide) (fun _ j hj => by rw [show ((0 : Int32)).toInt = 0 from rfl] at hj; omega) (by decide)
theorem sX4_readStatement_b32v1 {s : Nat → Int × Int} {k1 : Nat} {ws0 : Nat} {M : Mem} (hk1 : isP k1) (h_M : OKb (true, gT s) M) (_ : (1 : Int) ≤ (rd M 2 2).toInt ∧ (rd M 2 2).toInt ≤ 1) (_ : (2 : Int) ≤ (rd M 2 6).toInt ∧ (rd M 2 6).toInt ≤ 2) : Sf (mX4_readStatement_b32v1 2 k1 ws0 M) (pM (true, gT s)) := by
  unfold mX4_readStatement_b32v1
  exact Sf.c (sX4_errorOfWord hk1 h_M) (fun r p => sX4_readStatement_b51v1 hk1 h_M p)



theorem sX4_readStatement {s : Nat → Int × Int} {k1 : Nat} {M : Mem} (hk1 : isP k1) (h_M : OKb (true, gT s) M) : Sf (mX4_readStatement 2 k1 M) (pM (true, gT s)) := by
  unfold mX4_readStatement
  have b_4 : (1 : Int) ≤ (rd M 2 2).toInt ∧ (rd M 2 2).toInt ≤ 1 := h_M.at rfl
  have b_6 : (0 : Int) ≤ (rd M 2 4).toInt ∧ (rd M 2 4).toInt ≤ 600 := h_M.at rfl
  refine Sf.i (fun c => ?_) (fun c => sX4_readStatement_b32 hk1 h_M)
  have c := i_eq.mp c
  rw [show ((2 : Int32)).toInt = 2 from rfl] at c
  refine Sf.k (decide_eq_true (i_eq.mpr (by rw [show ((1 : Int32)).toInt = 1 from rfl]; omega))) ?_
  refine Sf.c (sX5_find h_M (by omega)) (fun r25 p => ?_)
  refine Sf.o (fun _ => sX4_readStatement_b32 hk1 h_M) (fun w27 cw => ?_)
  exact Sf.k (decide_eq_true (p w27 cw)) (sX4_readStatement_b32v1 hk1 h_M b_4 ⟨by omega, by omega⟩)
set_option maxHeartbeats 2000000 in
theorem sX4_readText_b84 {s : Nat → Int × Int} {k2 : Nat} {M : Mem} (hk2 : isP k2) (h_M : OKb (true, gT s) M) : Sf (mX4_readText_b84 2 1 k2 M) (pMI (true, gT s) (0) (1)) := by
  unfold mX4_readText_b84
  have b_1 : (0 : Int) ≤ (rd M 2 0).toInt ∧ (rd M 2 0).toInt ≤ 5 := h_M.at rfl
  have n_2 : ((0 : Int32)).toInt = 0 := rfl
  refine Sf.i (fun c_3 => ?_) (fun c_3 => ?_)
  · have c_3 := i_eq.mp c_3
    have n_4 : ((1 : Int32)).toInt = 1 := rfl
    have z_5 : (0 : Int) ≤ ((1 : Int32)).toInt ∧ ((1 : Int32)).toInt ≤ 1 := ⟨by omega, by omega⟩
    exact Sf.ok ⟨h_M, z_5⟩
  · have c_3 := i_ne c_3
    have n_6 : ((0 : Int32)).toInt = 0 := rfl
    have z_7 : (0 : Int) ≤ ((0 : Int32)).toInt ∧ ((0 : Int32)).toInt ≤ 1 := ⟨by omega, by omega⟩
    exact Sf.ok ⟨h_M, z_7⟩
set_option maxHeartbeats 2000000 in
theorem sX4_readText_b47 {s : Nat → Int × Int} {k2 : Nat} {ih47 : Int32 → Mem → Option (Mem × Int32)} {x4 : Int32} {M : Mem} {d47 : Nat} (hk2 : isP k2) (h_M : OKb (true, gT s) M) (hx4 : (0 : Int) ≤ (x4).toInt ∧ (x4).toInt ≤ 600) (hih47 : ∀ (yx4 : Int32) (M : Mem), OKb (true, gT s) M → ((0 : Int) ≤ (yx4).toInt ∧ (yx4).toInt ≤ 600) → 600 - (yx4).toInt < d47 → Sf (ih47 yx4 M) (pMI (true, gT s) (0) (1))) (hmu47 : 600 - (x4).toInt ≤ d47) : Sf (mX4_readText_b47 2 1 k2 ih47 x4 M) (pMI (true, gT s) (0) (1)) := by
  unfold mX4_readText_b47
  have n_1 : ((600 : Int32)).toInt = 600 := rfl
  refine Sf.i (fun c_2 => ?_) (fun c_2 => ?_)
  · have c_2 := i_le.mp c_2
    exact (sX4_readText_b84 hk2 h_M)
  · have c_2 := i_nle c_2
    have b_3 : (0 : Int) ≤ (rd M 2 6).toInt ∧ (rd M 2 6).toInt ≤ 4 := h_M.at rfl
    have n_4 : ((0 : Int32)).toInt = 0 := rfl
    refine Sf.i (fun c_5 => ?_) (fun c_5 => ?_)
    · have c_5 := i_eq.mp c_5
      exact (sX4_readText_b84 hk2 h_M)
    · have c_5 := i_ne c_5
      have b_6 : (0 : Int) ≤ (rd M 2 0).toInt ∧ (rd M 2 0).toInt ≤ 5 := h_M.at rfl
      refine Sf.i (fun c_7 => ?_) (fun c_7 => ?_)
      · have c_7 := i_eq.mp c_7
        refine Sf.m (sX4_readStatement hk2 h_M) (fun M25 _ h_M25 => ?_)
        have h_M25 : OKb (true, gT s) M25 := h_M25
        refine Sf.m (sX4_nextToken h_M25) (fun M28 _ h_M28 => ?_)
        have h_M28 : OKb (true, gT s) M28 := h_M28
        have n_10 : ((1 : Int32)).toInt = 1 := rfl
        try have a_11 : ((x4 + (1 : Int32))).toInt = (x4).toInt + ((1 : Int32)).toInt := i_add (by omega) (by omega)
        refine Sf.b (fun x4_78 e_x4_78 => ?_)
        have d_x4_78 := congrArg Int32.toInt e_x4_78
        exact (hih47 _ _ h_M28 ⟨by omega, by omega⟩ (by omega))
      · have c_7 := i_ne c_7
        exact (sX4_readText_b84 hk2 h_M)
theorem sX4_readText_l47_n {s : Nat → Int × Int} {k2 : Nat} (hk2 : isP k2)   : ∀ (n : Nat) (x4 : Int32) (M : Mem) (h_M : OKb (true, gT s) M) (hx4 : (0 : Int) ≤ (x4).toInt ∧ (x4).toInt ≤ 600)    (hmu : 600 - (x4).toInt < n), Sf (mX4_readText_l47 2 1 k2 n x4 M) (pMI (true, gT s) (0) (1)) := by
  intro n
  induction n with
  | zero => intro x4 M h_M hx4 hmu; exfalso; omega
  | succ n IH => intro x4 M h_M hx4 hmu; exact sX4_readText_b47 hk2 h_M hx4    IH (by omega)
theorem sX4_readText_l47 {s : Nat → Int × Int} {k2 : Nat} (hk2 : isP k2) {x4 : Int32} {M : Mem}  (h_M : OKb (true, gT s) M) (hx4 : (0 : Int) ≤ (x4).toInt ∧ (x4).toInt ≤ 600)    (hmu : 600 - (x4).toInt < 5000) : Sf (mX4_readText_l47 2 1 k2 5000 x4 M) (pMI (true, gT s) (0) (1)) :=
  sX4_readText_l47_n hk2  5000 _ M h_M hx4    hmu
set_option maxHeartbeats 2000000 in
theorem sX4_readText_b18 {s : Nat → Int × Int} {k2 : Nat} {y1 : Int32} {M : Mem} (hk2 : isP k2) (h_M : OKb (true, gT s) M) (hy1 : (0 : Int) ≤ (y1).toInt ∧ (y1).toInt ≤ 600) (he0 : (1 : Int) ≤ (rd M 2 2).toInt ∧ (rd M 2 2).toInt ≤ 1) : Sf (mX4_readText_b18 2 1 k2 y1 M) (pMI (true, gT s) (0) (1)) := by
  unfold mX4_readText_b18
  have z_1 : (0 : Int) ≤ (y1).toInt ∧ (y1).toInt ≤ 600 := ⟨by omega, by omega⟩
  refine Sf.b (fun M5 e_M5 => ?_)
  have h_M5 : OKb (true, gT s) M5 := by rw [e_M5]; exact h_M.put rfl z_1
  have n_2 : ((0 : Int32)).toInt = 0 := rfl
  have z_3 : (0 : Int) ≤ ((0 : Int32)).toInt ∧ ((0 : Int32)).toInt ≤ 600 := ⟨by omega, by omega⟩
  refine Sf.b (fun M7 e_M7 => ?_)
  have h_M7 : OKb (true, gT s) M7 := by rw [e_M7]; exact h_M5.put rfl z_3
  have z_4 : (0 : Int) ≤ ((0 : Int32)).toInt ∧ ((0 : Int32)).toInt ≤ 5 := ⟨by omega, by omega⟩
  refine Sf.b (fun M9 e_M9 => ?_)
  have h_M9 : OKb (true, gT s) M9 := by rw [e_M9]; exact h_M7.put rfl z_4
  have n_5 : (((-1) : Int32)).toInt = -1 := rfl
  have z_6 : (-1 : Int) ≤ (((-1) : Int32)).toInt ∧ (((-1) : Int32)).toInt ≤ 600 := ⟨by omega, by omega⟩
  refine Sf.b (fun M11 e_M11 => ?_)
  have h_M11 : OKb (true, gT s) M11 := by rw [e_M11]; exact h_M9.put rfl z_6
  refine Sf.m (sX1_clear hk2 h_M11) (fun M15 _ h_M15 => ?_)
  have h_M15 : OKb (true, gT s) M15 := h_M15
  refine Sf.m (sX4_nextToken h_M15) (fun M18 _ h_M18 => ?_)
  have h_M18 : OKb (true, gT s) M18 := h_M18
  exact (sX4_readText_l47 hk2 h_M18 ⟨by omega, by omega⟩ (by omega))
theorem sX4_readText {s : Nat → Int × Int} {k2 : Nat} {x2 : Int32} {M : Mem} (hk2 : isP k2) (h_M : OKb (fT s) M) (hx2 : (0 : Int) ≤ (x2).toInt ∧ (x2).toInt ≤ 600) : Sf (mX4_readText 2 1 k2 x2 M) (pMI (fT s) (0) (1)) := by
  unfold mX4_readText
  refine Sf.k (decide_eq_true rfl) ?_
  refine Sf.b (fun M1 e => ?_)
  have h1 : OKb (true, gT s) M1 := by rw [e]; exact OKb.read (f := fT s) (v := 1) h_M rfl
  have e0 : (1 : Int) ≤ (rd M1 2 2).toInt ∧ (rd M1 2 2).toInt ≤ 1 := h1 2 2
  exact Sf.mono (Q := pMI (true, gT s) 0 1) (Sf.i (fun _ => sX4_readText_b18 hk2 h1 (by decide) e0) (fun _ => sX4_readText_b18 hk2 h1 hx2 e0)) (fun q h => ⟨OKb.weak (f := fT s) h.1, h.2⟩)

