set_option maxHeartbeats 2000000 in
theorem sX1_putSheet {f : Bool} {k0 : Nat} {x1 : Int32} {x2 : Int32} {x3 : Int32} {M : Mem} (hk0 : isP k0) (h_M : OKb f M) : Sf (mX1_putSheet k0 x1 x2 x3 M) (pM f) := by
  unfold mX1_putSheet
  refine Sf.b (fun M1 e_M1 => ?_)
  have h_M1 : OKb f M1 := by rw [e_M1]; exact h_M.put (bx_P0 hk0) (i_rng _)
  refine Sf.b (fun M3 e_M3 => ?_)
  have h_M3 : OKb f M3 := by rw [e_M3]; exact h_M1.put (bx_P0 hk0) (i_rng _)
  refine Sf.b (fun M5 e_M5 => ?_)
  have h_M5 : OKb f M5 := by rw [e_M5]; exact h_M3.put (bx_P0 hk0) (i_rng _)
  exact Sf.ok h_M5
set_option maxHeartbeats 2000000 in
theorem sX1_putTool {f : Bool} {k0 : Nat} {x1 : Int32} {x2 : Int32} {x3 : Int32} {M : Mem} (hk0 : isP k0) (h_M : OKb f M) (hx1 : (0 : Int) ≤ (x1).toInt ∧ (x1).toInt ≤ 4) : Sf (mX1_putTool k0 x1 x2 x3 M) (pM f) := by
  unfold mX1_putTool
  have n_1 : ((0 : Int32)).toInt = 0 := rfl
  refine Sf.i (fun c_2 => ?_) (fun c_2 => ?_)
  · have c_2 := i_lt.mp c_2
    exfalso; omega
  · have c_2 := i_nlt c_2
    have n_3 : ((5 : Int32)).toInt = 5 := rfl
    refine Sf.i (fun c_4 => ?_) (fun c_4 => ?_)
    · have c_4 := i_le.mp c_4
      exfalso; omega
    · have c_4 := i_nle c_4
      have n_5 : ((2 : Int32)).toInt = 2 := rfl
      have a_6 : (((2 : Int32) * x1)).toInt = 2 * (x1).toInt := i_mulc (by omega) (by omega) (by omega)
      refine Sf.k (ok_in (by omega) (by omega)) ?_
      refine Sf.b (fun M5 e_M5 => ?_)
      have h_M5 : OKb f M5 := by rw [e_M5]; exact h_M.put (bx_P (c := 2) hk0 (by omega)) (i_rng _)
      have n_7 : ((1 : Int32)).toInt = 1 := rfl
      have a_8 : ((((2 : Int32) * x1) + (1 : Int32))).toInt = (((2 : Int32) * x1)).toInt + ((1 : Int32)).toInt := i_add (by omega) (by omega)
      refine Sf.k (ok_in (by omega) (by omega)) ?_
      refine Sf.b (fun M8 e_M8 => ?_)
      have h_M8 : OKb f M8 := by rw [e_M8]; exact h_M5.put (bx_P (c := 2) hk0 (by omega)) (i_rng _)
      exact Sf.ok h_M8
set_option maxHeartbeats 2000000 in
theorem sX1_putCosts {f : Bool} {k0 : Nat} {x1 : Int32} {x2 : Int32} {x3 : Int32} {M : Mem} (hk0 : isP k0) (h_M : OKb f M) (hx1 : (0 : Int) ≤ (x1).toInt ∧ (x1).toInt ≤ 99) (hx2 : (0 : Int) ≤ (x2).toInt ∧ (x2).toInt ≤ 99) (hx3 : (0 : Int) ≤ (x3).toInt ∧ (x3).toInt ≤ 99) : Sf (mX1_putCosts k0 x1 x2 x3 M) (pM f) := by
  unfold mX1_putCosts
  have z_1 : (0 : Int) ≤ (x1).toInt ∧ (x1).toInt ≤ 99 := ⟨by omega, by omega⟩
  refine Sf.b (fun M1 e_M1 => ?_)
  have h_M1 : OKb f M1 := by rw [e_M1]; exact h_M.put (bx_P0 hk0) z_1
  have z_2 : (0 : Int) ≤ (x2).toInt ∧ (x2).toInt ≤ 99 := ⟨by omega, by omega⟩
  refine Sf.b (fun M3 e_M3 => ?_)
  have h_M3 : OKb f M3 := by rw [e_M3]; exact h_M1.put (bx_P0 hk0) z_2
  have z_3 : (0 : Int) ≤ (x3).toInt ∧ (x3).toInt ≤ 99 := ⟨by omega, by omega⟩
  refine Sf.b (fun M5 e_M5 => ?_)
  have h_M5 : OKb f M5 := by rw [e_M5]; exact h_M3.put (bx_P0 hk0) z_3
  exact Sf.ok h_M5
set_option maxHeartbeats 2000000 in
theorem sX1_dropSteps {f : Bool} {k0 : Nat} {M : Mem} (hk0 : isP k0) (h_M : OKb f M) : Sf (mX1_dropSteps k0 M) (pM f) := by
  unfold mX1_dropSteps
  have n_1 : ((0 : Int32)).toInt = 0 := rfl
  have z_2 : (0 : Int) ≤ ((0 : Int32)).toInt ∧ ((0 : Int32)).toInt ≤ 255 := ⟨by omega, by omega⟩
  refine Sf.b (fun M1 e_M1 => ?_)
  have h_M1 : OKb f M1 := by rw [e_M1]; exact h_M.put (bx_P0 hk0) z_2
  have z_3 : (0 : Int) ≤ ((0 : Int32)).toInt ∧ ((0 : Int32)).toInt ≤ 8 := ⟨by omega, by omega⟩
  refine Sf.b (fun M3 e_M3 => ?_)
  have h_M3 : OKb f M3 := by rw [e_M3]; exact h_M1.put (bx_P0 hk0) z_3
  exact Sf.ok h_M3
set_option maxHeartbeats 2000000 in
theorem sX1_clear {f : Bool} {k0 : Nat} {M : Mem} (hk0 : isP k0) (h_M : OKb f M) : Sf (mX1_clear k0 M) (pM f) := by
  unfold mX1_clear
  have n_1 : ((0 : Int32)).toInt = 0 := rfl
  have z_2 : (0 : Int) ≤ ((0 : Int32)).toInt ∧ ((0 : Int32)).toInt ≤ 9 := ⟨by omega, by omega⟩
  refine Sf.b (fun M1 e_M1 => ?_)
  have h_M1 : OKb f M1 := by rw [e_M1]; exact h_M.put (bx_P0 hk0) z_2
  have z_3 : (0 : Int) ≤ ((0 : Int32)).toInt ∧ ((0 : Int32)).toInt ≤ 255 := ⟨by omega, by omega⟩
  refine Sf.b (fun M3 e_M3 => ?_)
  have h_M3 : OKb f M3 := by rw [e_M3]; exact h_M1.put (bx_P0 hk0) z_3
  have z_4 : (0 : Int) ≤ ((0 : Int32)).toInt ∧ ((0 : Int32)).toInt ≤ 8 := ⟨by omega, by omega⟩
  refine Sf.b (fun M5 e_M5 => ?_)
  have h_M5 : OKb f M5 := by rw [e_M5]; exact h_M3.put (bx_P0 hk0) z_4
  refine Sf.m (sX1_putSheet hk0 h_M5) (fun M9 _ h_M9 => ?_)
  have h_M9 : OKb f M9 := h_M9
  refine Sf.m (sX1_putTool hk0 h_M9 ⟨by omega, by omega⟩) (fun M12 _ h_M12 => ?_)
  have h_M12 : OKb f M12 := h_M12
  have n_7 : ((1 : Int32)).toInt = 1 := rfl
  refine Sf.m (sX1_putTool hk0 h_M12 ⟨by omega, by omega⟩) (fun M15 _ h_M15 => ?_)
  have h_M15 : OKb f M15 := h_M15
  have n_9 : ((2 : Int32)).toInt = 2 := rfl
  refine Sf.m (sX1_putTool hk0 h_M15 ⟨by omega, by omega⟩) (fun M18 _ h_M18 => ?_)
  have h_M18 : OKb f M18 := h_M18
  have n_11 : ((3 : Int32)).toInt = 3 := rfl
  refine Sf.m (sX1_putTool hk0 h_M18 ⟨by omega, by omega⟩) (fun M21 _ h_M21 => ?_)
  have h_M21 : OKb f M21 := h_M21
  have n_13 : ((4 : Int32)).toInt = 4 := rfl
  refine Sf.m (sX1_putTool hk0 h_M21 ⟨by omega, by omega⟩) (fun M24 _ h_M24 => ?_)
  have h_M24 : OKb f M24 := h_M24
  refine Sf.m (sX1_putCosts hk0 h_M24 ⟨by omega, by omega⟩ ⟨by omega, by omega⟩ ⟨by omega, by omega⟩) (fun M27 _ h_M27 => ?_)
  have h_M27 : OKb f M27 := h_M27
  refine Sf.m (sX1_dropSteps hk0 h_M27) (fun M30 _ h_M30 => ?_)
  have h_M30 : OKb f M30 := h_M30
  exact Sf.ok h_M30
set_option maxHeartbeats 2000000 in
theorem sX1_copyFrom {f : Bool} {k0 : Nat} {k1 : Nat} {M : Mem} (hk0 : isP k0) (hk1 : isP k1) (h_M : OKb f M) : Sf (mX1_copyFrom k0 k1 M) (pM f) := by
  unfold mX1_copyFrom
  have b_1 : (0 : Int) ≤ (rd M k1 0).toInt ∧ (rd M k1 0).toInt ≤ 9 := h_M.at (bx_P0 hk1)
  have z_2 : (0 : Int) ≤ ((rd M k1 0)).toInt ∧ ((rd M k1 0)).toInt ≤ 9 := ⟨by omega, by omega⟩
  refine Sf.b (fun M1 e_M1 => ?_)
  have h_M1 : OKb f M1 := by rw [e_M1]; exact h_M.put (bx_P0 hk0) z_2
  refine Sf.b (fun M3 e_M3 => ?_)
  have h_M3 : OKb f M3 := by rw [e_M3]; exact h_M1.cp (fun j => (bx_P (c := 1) hk1 (by omega)).trans (bx_P (c := 1) hk0 (by omega)).symm)
  have b_3 : (0 : Int) ≤ (rd M3 k1 2).toInt ∧ (rd M3 k1 2).toInt ≤ 255 := h_M3.at (bx_P0 hk1)
  have z_4 : (0 : Int) ≤ ((rd M3 k1 2)).toInt ∧ ((rd M3 k1 2)).toInt ≤ 255 := ⟨by omega, by omega⟩
  refine Sf.b (fun M5 e_M5 => ?_)
  have h_M5 : OKb f M5 := by rw [e_M5]; exact h_M3.put (bx_P0 hk0) z_4
  refine Sf.m (sX1_putSheet hk0 h_M5) (fun M9 _ h_M9 => ?_)
  have h_M9 : OKb f M9 := h_M9
  refine Sf.b (fun M10 e_M10 => ?_)
  have h_M10 : OKb f M10 := by rw [e_M10]; exact h_M9.cp (fun j => (bx_P (c := 2) hk1 (by omega)).trans (bx_P (c := 2) hk0 (by omega)).symm)
  have b_6 : (0 : Int) ≤ (rd M10 k1 7).toInt ∧ (rd M10 k1 7).toInt ≤ 99 := h_M10.at (bx_P0 hk1)
  have b_7 : (0 : Int) ≤ (rd M10 k1 8).toInt ∧ (rd M10 k1 8).toInt ≤ 99 := h_M10.at (bx_P0 hk1)
  have b_8 : (0 : Int) ≤ (rd M10 k1 9).toInt ∧ (rd M10 k1 9).toInt ≤ 99 := h_M10.at (bx_P0 hk1)
  refine Sf.m (sX1_putCosts hk0 h_M10 ⟨by omega, by omega⟩ ⟨by omega, by omega⟩ ⟨by omega, by omega⟩) (fun M14 _ h_M14 => ?_)
  have h_M14 : OKb f M14 := h_M14
  have b_10 : (0 : Int) ≤ (rd M14 k1 10).toInt ∧ (rd M14 k1 10).toInt ≤ 8 := h_M14.at (bx_P0 hk1)
  have z_11 : (0 : Int) ≤ ((rd M14 k1 10)).toInt ∧ ((rd M14 k1 10)).toInt ≤ 8 := ⟨by omega, by omega⟩
  refine Sf.b (fun M15 e_M15 => ?_)
  have h_M15 : OKb f M15 := by rw [e_M15]; exact h_M14.put (bx_P0 hk0) z_11
  refine Sf.b (fun M17 e_M17 => ?_)
  have h_M17 : OKb f M17 := by rw [e_M17]; exact h_M15.cp (fun j => (bx_P (c := 3) hk1 (by omega)).trans (bx_P (c := 3) hk0 (by omega)).symm)
  refine Sf.b (fun M19 e_M19 => ?_)
  have h_M19 : OKb f M19 := by rw [e_M19]; exact h_M17.cp (fun j => (bx_P (c := 4) hk1 (by omega)).trans (bx_P (c := 4) hk0 (by omega)).symm)
  have b_12 : (0 : Int) ≤ (rd M19 k1 13).toInt ∧ (rd M19 k1 13).toInt ≤ 255 := h_M19.at (bx_P0 hk1)
  have z_13 : (0 : Int) ≤ ((rd M19 k1 13)).toInt ∧ ((rd M19 k1 13)).toInt ≤ 255 := ⟨by omega, by omega⟩
  refine Sf.b (fun M21 e_M21 => ?_)
  have h_M21 : OKb f M21 := by rw [e_M21]; exact h_M19.put (bx_P0 hk0) z_13
  have b_15 : (0 : Int) ≤ (rd M21 k1 14).toInt ∧ (rd M21 k1 14).toInt ≤ 8 := h_M21.at (bx_P0 hk1)
  have z_16 : (0 : Int) ≤ ((rd M21 k1 14)).toInt ∧ ((rd M21 k1 14)).toInt ≤ 8 := ⟨by omega, by omega⟩
  refine Sf.b (fun M23 e_M23 => ?_)
  have h_M23 : OKb f M23 := by rw [e_M23]; exact h_M21.put (bx_P0 hk0) z_16
  refine Sf.b (fun M25 e_M25 => ?_)
  have h_M25 : OKb f M25 := by rw [e_M25]; exact h_M23.cp (fun j => (bx_P (c := 5) hk1 (by omega)).trans (bx_P (c := 5) hk0 (by omega)).symm)
  refine Sf.b (fun M27 e_M27 => ?_)
  have h_M27 : OKb f M27 := by rw [e_M27]; exact h_M25.cp (fun j => (bx_P (c := 6) hk1 (by omega)).trans (bx_P (c := 6) hk0 (by omega)).symm)
  refine Sf.b (fun M29 e_M29 => ?_)
  have h_M29 : OKb f M29 := by rw [e_M29]; exact h_M27.cp (fun j => (bx_P (c := 7) hk1 (by omega)).trans (bx_P (c := 7) hk0 (by omega)).symm)
  exact Sf.ok h_M29
set_option maxHeartbeats 2000000 in
theorem sX1_addBack {f : Bool} {k0 : Nat} {x1 : Int32} {x2 : Int32} {M : Mem} (hk0 : isP k0) (h_M : OKb f M) : Sf (mX1_addBack k0 x1 x2 M) (pM f) := by
  unfold mX1_addBack
  have n_1 : ((8 : Int32)).toInt = 8 := rfl
  have b_2 : (0 : Int) ≤ (rd M k0 10).toInt ∧ (rd M k0 10).toInt ≤ 8 := h_M.at (bx_P0 hk0)
  refine Sf.i (fun c_3 => ?_) (fun c_3 => ?_)
  · have c_3 := i_le.mp c_3
    exact Sf.ok h_M
  · have c_3 := i_nle c_3
    refine Sf.k (ok_in (by omega) (by omega)) ?_
    refine Sf.b (fun M4 e_M4 => ?_)
    have h_M4 : OKb f M4 := by rw [e_M4]; exact h_M.put (bx_P (c := 3) hk0 (by omega)) (i_rng _)
    have w_4 : (rd M4 k0 10).toInt = (rd M k0 10).toInt := by rw [e_M4, rd_wk (by omega)]
    refine Sf.k (ok_in (by omega) (by omega)) ?_
    refine Sf.b (fun M7 e_M7 => ?_)
    have h_M7 : OKb f M7 := by rw [e_M7]; exact h_M4.put (bx_P (c := 4) hk0 (by omega)) (i_rng _)
    have w_5 : (rd M7 k0 10).toInt = (rd M4 k0 10).toInt := by rw [e_M7, rd_wk (by omega)]
    have w_6 : (rd M4 k0 10).toInt = (rd M k0 10).toInt := by rw [e_M4, rd_wk (by omega)]
    have n_7 : ((1 : Int32)).toInt = 1 := rfl
    have a_8 : (((rd M7 k0 10) + (1 : Int32))).toInt = ((rd M7 k0 10)).toInt + ((1 : Int32)).toInt := i_add (by omega) (by omega)
    have z_9 : (0 : Int) ≤ (((rd M7 k0 10) + (1 : Int32))).toInt ∧ (((rd M7 k0 10) + (1 : Int32))).toInt ≤ 8 := ⟨by omega, by omega⟩
    refine Sf.b (fun M8 e_M8 => ?_)
    have h_M8 : OKb f M8 := by rw [e_M8]; exact h_M7.put (bx_P0 hk0) z_9
    exact Sf.ok h_M8
set_option maxHeartbeats 2000000 in
theorem sX1_lastBackRatio {f : Bool} {k0 : Nat} {M : Mem} (hk0 : isP k0) (h_M : OKb f M) : Sf (mX1_lastBackRatio k0 M) (pI (-2147483648) (2147483647)) := by
  unfold mX1_lastBackRatio
  have b_1 : (0 : Int) ≤ (rd M k0 10).toInt ∧ (rd M k0 10).toInt ≤ 8 := h_M.at (bx_P0 hk0)
  have n_2 : ((0 : Int32)).toInt = 0 := rfl
  refine Sf.i (fun c_3 => ?_) (fun c_3 => ?_)
  · have c_3 := i_le.mp c_3
    exact Sf.ok (i_rng _)
  · have c_3 := i_nle c_3
    have n_4 : ((1 : Int32)).toInt = 1 := rfl
    have a_5 : (((rd M k0 10) - (1 : Int32))).toInt = ((rd M k0 10)).toInt - ((1 : Int32)).toInt := i_sub (by omega) (by omega)
    refine Sf.k (ok_in (by omega) (by omega)) ?_
    exact Sf.ok (i_rng _)
set_option maxHeartbeats 2000000 in
theorem sX1_addLeg_b47 {f : Bool} {k0 : Nat} {M : Mem} (hk0 : isP k0) (h_M : OKb f M) (he0 : (0 : Int) ≤ (rd M k0 0).toInt ∧ (rd M k0 0).toInt ≤ 8) : Sf (mX1_addLeg_b47 k0 M) (pM f) := by
  unfold mX1_addLeg_b47
  have b_1 : (0 : Int) ≤ (rd M k0 0).toInt ∧ (rd M k0 0).toInt ≤ 9 := h_M.at (bx_P0 hk0)
  have n_2 : ((1 : Int32)).toInt = 1 := rfl
  have a_3 : (((rd M k0 0) + (1 : Int32))).toInt = ((rd M k0 0)).toInt + ((1 : Int32)).toInt := i_add (by omega) (by omega)
  have z_4 : (0 : Int) ≤ (((rd M k0 0) + (1 : Int32))).toInt ∧ (((rd M k0 0) + (1 : Int32))).toInt ≤ 9 := ⟨by omega, by omega⟩
  refine Sf.b (fun M6 e_M6 => ?_)
  have h_M6 : OKb f M6 := by rw [e_M6]; exact h_M.put (bx_P0 hk0) z_4
  exact Sf.ok h_M6
set_option maxHeartbeats 2000000 in
theorem sX1_addLeg {f : Bool} {k0 : Nat} {x1 : Int32} {x2 : Int32} {M : Mem} (hk0 : isP k0) (h_M : OKb f M) (hx1 : (0 : Int) ≤ (x1).toInt ∧ (x1).toInt ≤ 9999) (hx2 : (0 : Int) ≤ (x2).toInt ∧ (x2).toInt ≤ 1) : Sf (mX1_addLeg k0 x1 x2 M) (pM f) := by
  unfold mX1_addLeg
  have n_1 : ((9 : Int32)).toInt = 9 := rfl
  have b_2 : (0 : Int) ≤ (rd M k0 0).toInt ∧ (rd M k0 0).toInt ≤ 9 := h_M.at (bx_P0 hk0)
  refine Sf.i (fun c_3 => ?_) (fun c_3 => ?_)
  · have c_3 := i_le.mp c_3
    exact Sf.ok h_M
  · have c_3 := i_nle c_3
    refine Sf.k (ok_in (by omega) (by omega)) ?_
    have z_4 : (0 : Int) ≤ (x1).toInt ∧ (x1).toInt ≤ 9999 := ⟨by omega, by omega⟩
    refine Sf.b (fun M4 e_M4 => ?_)
    have h_M4 : OKb f M4 := by rw [e_M4]; exact h_M.put (bx_P (c := 1) hk0 (by omega)) z_4
    have w_5 : (rd M4 k0 0).toInt = (rd M k0 0).toInt := by rw [e_M4, rd_wk (by omega)]
    have n_6 : ((0 : Int32)).toInt = 0 := rfl
    refine Sf.i (fun c_7 => ?_) (fun c_7 => ?_)
    · have c_7 := i_le.mp c_7
      exact (sX1_addLeg_b47 hk0 h_M4 ⟨by omega, by omega⟩)
    · have c_7 := i_nle c_7
      refine Sf.i (fun c_8 => ?_) (fun c_8 => ?_)
      · have c_8 := i_eq.mp c_8
        exact (sX1_addLeg_b47 hk0 h_M4 ⟨by omega, by omega⟩)
      · have c_8 := i_ne c_8
        have w_9 : (rd M4 k0 2).toInt = (rd M k0 2).toInt := by rw [e_M4, rd_wk (by omega)]
        have b_10 : (0 : Int) ≤ (rd M k0 2).toInt ∧ (rd M k0 2).toInt ≤ 255 := h_M.at (bx_P0 hk0)
        have n_11 : ((1 : Int32)).toInt = 1 := rfl
        have a_12 : (((rd M4 k0 0) - (1 : Int32))).toInt = ((rd M4 k0 0)).toInt - ((1 : Int32)).toInt := i_sub (by omega) (by omega)
        have a_13 : 0 < (((1 : Int32) <<< (((rd M4 k0 0) - (1 : Int32)) &&& 31))).toInt ∧ (((1 : Int32) <<< (((rd M4 k0 0) - (1 : Int32)) &&& 31))).toInt ≤ 128 := i_shl 7 (by decide) ⟨by omega, by omega⟩
        have a_14 : 0 ≤ (((rd M4 k0 2) ||| ((1 : Int32) <<< (((rd M4 k0 0) - (1 : Int32)) &&& 31)))).toInt ∧ (((rd M4 k0 2) ||| ((1 : Int32) <<< (((rd M4 k0 0) - (1 : Int32)) &&& 31)))).toInt < 256 := i_or 8 (by decide) ⟨by omega, by omega⟩ ⟨by omega, by omega⟩
        have z_15 : (0 : Int) ≤ (((rd M4 k0 2) ||| ((1 : Int32) <<< (((rd M4 k0 0) - (1 : Int32)) &&& 31)))).toInt ∧ (((rd M4 k0 2) ||| ((1 : Int32) <<< (((rd M4 k0 0) - (1 : Int32)) &&& 31)))).toInt ≤ 255 := ⟨by omega, by omega⟩
        refine Sf.b (fun M9 e_M9 => ?_)
        have h_M9 : OKb f M9 := by rw [e_M9]; exact h_M4.put (bx_P0 hk0) z_15
        have w_16 : (rd M9 k0 0).toInt = (rd M4 k0 0).toInt := by rw [e_M9, rd_wj (by decide)]
        have w_17 : (rd M4 k0 0).toInt = (rd M k0 0).toInt := by rw [e_M4, rd_wk (by omega)]
        exact (sX1_addLeg_b47 hk0 h_M9 ⟨by omega, by omega⟩)
set_option maxHeartbeats 2000000 in
theorem sX1_bendCount {f : Bool} {k0 : Nat} {M : Mem} (hk0 : isP k0) (h_M : OKb f M) : Sf (mX1_bendCount k0 M) (pI (0) (8)) := by
  unfold mX1_bendCount
  have b_1 : (0 : Int) ≤ (rd M k0 0).toInt ∧ (rd M k0 0).toInt ≤ 9 := h_M.at (bx_P0 hk0)
  have n_2 : ((0 : Int32)).toInt = 0 := rfl
  refine Sf.i (fun c_3 => ?_) (fun c_3 => ?_)
  · have c_3 := i_le.mp c_3
    have n_4 : ((0 : Int32)).toInt = 0 := rfl
    have z_5 : (0 : Int) ≤ ((0 : Int32)).toInt ∧ ((0 : Int32)).toInt ≤ 8 := ⟨by omega, by omega⟩
    exact Sf.ok z_5
  · have c_3 := i_nle c_3
    have n_6 : ((1 : Int32)).toInt = 1 := rfl
    have a_7 : (((rd M k0 0) - (1 : Int32))).toInt = ((rd M k0 0)).toInt - ((1 : Int32)).toInt := i_sub (by omega) (by omega)
    have z_8 : (0 : Int) ≤ (((rd M k0 0) - (1 : Int32))).toInt ∧ (((rd M k0 0) - (1 : Int32))).toInt ≤ 8 := ⟨by omega, by omega⟩
    exact Sf.ok z_8
set_option maxHeartbeats 2000000 in
theorem sX1_allBends {f : Bool} {k0 : Nat} {M : Mem} (hk0 : isP k0) (h_M : OKb f M) : Sf (mX1_allBends k0 M) (pI (0) (255)) := by
  unfold mX1_allBends
  refine Sf.c (sX1_bendCount hk0 h_M) (fun r2 p_1 => ?_)
  obtain ⟨p_1a, p_1b⟩ := p_1
  have a_2 : 0 < (((1 : Int32) <<< (r2 &&& 31))).toInt ∧ (((1 : Int32) <<< (r2 &&& 31))).toInt ≤ 256 := i_shl 8 (by decide) ⟨by omega, by omega⟩
  have n_3 : ((1 : Int32)).toInt = 1 := rfl
  have a_4 : ((((1 : Int32) <<< (r2 &&& 31)) - (1 : Int32))).toInt = (((1 : Int32) <<< (r2 &&& 31))).toInt - ((1 : Int32)).toInt := i_sub (by omega) (by omega)
  have z_5 : (0 : Int) ≤ ((((1 : Int32) <<< (r2 &&& 31)) - (1 : Int32))).toInt ∧ ((((1 : Int32) <<< (r2 &&& 31)) - (1 : Int32))).toInt ≤ 255 := ⟨by omega, by omega⟩
  exact Sf.ok z_5
set_option maxHeartbeats 2000000 in
theorem sX1_goesUp {f : Bool} {k0 : Nat} {x1 : Int32} {M : Mem} (hk0 : isP k0) (h_M : OKb f M) (hx1 : (-8 : Int) ≤ (x1).toInt ∧ (x1).toInt ≤ 7) : Sf (mX1_goesUp k0 x1 M) (pI (0) (1)) := by
  unfold mX1_goesUp
  have b_1 : (0 : Int) ≤ (rd M k0 2).toInt ∧ (rd M k0 2).toInt ≤ 255 := h_M.at (bx_P0 hk0)
  have a_2 := i_shr (a := (rd M k0 2)) (b := x1) (by omega)
  have n_3 : ((1 : Int32)).toInt = 1 := rfl
  have a_4 := i_and (a := ((rd M k0 2) >>> (x1 &&& 31))) (b := (1 : Int32)) (by omega)
  have a_5 := i_andr (a := ((rd M k0 2) >>> (x1 &&& 31))) (b := (1 : Int32)) (by omega)
  have n_6 : ((0 : Int32)).toInt = 0 := rfl
  refine Sf.i (fun c_7 => ?_) (fun c_7 => ?_)
  · have c_7 := i_eq.mp c_7
    have n_8 : ((0 : Int32)).toInt = 0 := rfl
    have z_9 : (0 : Int) ≤ ((0 : Int32)).toInt ∧ ((0 : Int32)).toInt ≤ 1 := ⟨by omega, by omega⟩
    exact Sf.ok z_9
  · have c_7 := i_ne c_7
    have z_10 : (0 : Int) ≤ ((1 : Int32)).toInt ∧ ((1 : Int32)).toInt ≤ 1 := ⟨by omega, by omega⟩
    exact Sf.ok z_10
set_option maxHeartbeats 2000000 in
theorem sX1_sumOfLegs_b4 {f : Bool} {k0 : Nat} {M : Mem} {ih4 : Int32 → Int32 → Int32 → Option Int32} {x1 : Int32} {x2 : Int32} {x3 : Int32} {d4 : Nat} (hk0 : isP k0) (h_M : OKb f M) (hx1 : (1 : Int) ≤ (x1).toInt ∧ (x1).toInt ≤ 9) (hx3 : (0 : Int) ≤ (x3).toInt ∧ (x3).toInt ≤ 9) (hih4 : ∀ (yx1 : Int32) (yx2 : Int32) (yx3 : Int32), ((1 : Int) ≤ (yx1).toInt ∧ (yx1).toInt ≤ 9) → ((0 : Int) ≤ (yx3).toInt ∧ (yx3).toInt ≤ 9) → 9 - (yx3).toInt < d4 → Sf (ih4 yx1 yx2 yx3) (pI (-2147483648) (2147483647))) (hmu4 : 9 - (x3).toInt ≤ d4) : Sf (mX1_sumOfLegs_b4 k0 M ih4 x1 x2 x3) (pI (-2147483648) (2147483647)) := by
  unfold mX1_sumOfLegs_b4
  refine Sf.i (fun c_1 => ?_) (fun c_1 => ?_)
  · have c_1 := i_le.mp c_1
    exact Sf.ok (i_rng _)
  · have c_1 := i_nle c_1
    have n_2 : ((9 : Int32)).toInt = 9 := rfl
    refine Sf.i (fun c_3 => ?_) (fun c_3 => ?_)
    · have c_3 := i_le.mp c_3
      exfalso; omega
    · have c_3 := i_nle c_3
      refine Sf.k (ok_in (by omega) (by omega)) ?_
      have b_4 : (0 : Int) ≤ (rd M (k0 + 1) ((x3).toNatClampNeg)).toInt ∧ (rd M (k0 + 1) ((x3).toNatClampNeg)).toInt ≤ 9999 := h_M.at (bx_P (c := 1) hk0 (by omega))
      refine Sf.b (fun x2_23 e_x2_23 => ?_)
      have d_x2_23 := congrArg Int32.toInt e_x2_23
      have n_5 : ((1 : Int32)).toInt = 1 := rfl
      have a_6 : ((x3 + (1 : Int32))).toInt = (x3).toInt + ((1 : Int32)).toInt := i_add (by omega) (by omega)
      refine Sf.b (fun x3_24 e_x3_24 => ?_)
      have d_x3_24 := congrArg Int32.toInt e_x3_24
      exact (hih4 _ _ _ ⟨by omega, by omega⟩ ⟨by omega, by omega⟩ (by omega))
theorem sX1_sumOfLegs_l4_n {f : Bool} {k0 : Nat} (hk0 : isP k0) {M : Mem} (h_M : OKb f M) : ∀ (n : Nat) (x1 : Int32) (x2 : Int32) (x3 : Int32) (hx1 : (1 : Int) ≤ (x1).toInt ∧ (x1).toInt ≤ 9) (hx3 : (0 : Int) ≤ (x3).toInt ∧ (x3).toInt ≤ 9) (hmu : 9 - (x3).toInt < n), Sf (mX1_sumOfLegs_l4 k0 M n x1 x2 x3) (pI (-2147483648) (2147483647)) := by
  intro n
  induction n with
  | zero => intro x1 x2 x3 hx1 hx3 hmu; exfalso; omega
  | succ n IH => intro x1 x2 x3 hx1 hx3 hmu; exact sX1_sumOfLegs_b4 hk0 h_M hx1 hx3  IH (by omega)
theorem sX1_sumOfLegs_l4 {f : Bool} {k0 : Nat} (hk0 : isP k0) {M : Mem} {x1 : Int32} {x2 : Int32} {x3 : Int32} (h_M : OKb f M) (hx1 : (1 : Int) ≤ (x1).toInt ∧ (x1).toInt ≤ 9) (hx3 : (0 : Int) ≤ (x3).toInt ∧ (x3).toInt ≤ 9)  (hmu : 9 - (x3).toInt < 5000) : Sf (mX1_sumOfLegs_l4 k0 M 5000 x1 x2 x3) (pI (-2147483648) (2147483647)) :=
  sX1_sumOfLegs_l4_n hk0 h_M  5000 _ _ _ hx1 hx3 hmu
set_option maxHeartbeats 2000000 in
theorem sX1_sumOfLegs {f : Bool} {k0 : Nat} {x1 : Int32} {M : Mem} (hk0 : isP k0) (h_M : OKb f M) (hx1 : (1 : Int) ≤ (x1).toInt ∧ (x1).toInt ≤ 9) : Sf (mX1_sumOfLegs k0 x1 M) (pI (-2147483648) (2147483647)) := by
  unfold mX1_sumOfLegs
  have n_1 : ((0 : Int32)).toInt = 0 := rfl
  exact (sX1_sumOfLegs_l4 hk0 h_M ⟨by omega, by omega⟩ ⟨by omega, by omega⟩ (by omega))
set_option maxHeartbeats 2000000 in
theorem sX1_isSameFromOtherEnd_b48 {f : Bool} {k0 : Nat} {M : Mem} {ih48 : Int32 → Option Int32} {x1 : Int32} {d48 : Nat} (hk0 : isP k0) (h_M : OKb f M) (hx1 : (0 : Int) ≤ (x1).toInt ∧ (x1).toInt ≤ 8) (hih48 : ∀ (yx1 : Int32), ((0 : Int) ≤ (yx1).toInt ∧ (yx1).toInt ≤ 8) → 8 - (yx1).toInt < d48 → Sf (ih48 yx1) (pI (0) (1))) (hmu48 : 8 - (x1).toInt ≤ d48) : Sf (mX1_isSameFromOtherEnd_b48 k0 M ih48 x1) (pI (0) (1)) := by
  unfold mX1_isSameFromOtherEnd_b48
  refine Sf.c (sX1_bendCount hk0 h_M) (fun r3 p_1 => ?_)
  obtain ⟨p_1a, p_1b⟩ := p_1
  refine Sf.i (fun c_2 => ?_) (fun c_2 => ?_)
  · have c_2 := i_le.mp c_2
    have n_3 : ((1 : Int32)).toInt = 1 := rfl
    have z_4 : (0 : Int) ≤ ((1 : Int32)).toInt ∧ ((1 : Int32)).toInt ≤ 1 := ⟨by omega, by omega⟩
    exact Sf.ok z_4
  · have c_2 := i_nle c_2
    refine Sf.c (sX1_goesUp hk0 h_M ⟨by omega, by omega⟩) (fun r7 p_5 => ?_)
    obtain ⟨p_5a, p_5b⟩ := p_5
    refine Sf.c (sX1_bendCount hk0 h_M) (fun r10 p_6 => ?_)
    obtain ⟨p_6a, p_6b⟩ := p_6
    have n_7 : ((1 : Int32)).toInt = 1 := rfl
    have a_8 : ((r10 - (1 : Int32))).toInt = (r10).toInt - ((1 : Int32)).toInt := i_sub (by omega) (by omega)
    have a_9 : (((r10 - (1 : Int32)) - x1)).toInt = ((r10 - (1 : Int32))).toInt - (x1).toInt := i_sub (by omega) (by omega)
    refine Sf.c (sX1_goesUp hk0 h_M ⟨by omega, by omega⟩) (fun r13 p_10 => ?_)
    obtain ⟨p_10a, p_10b⟩ := p_10
    refine Sf.i (fun c_11 => ?_) (fun c_11 => ?_)
    · have c_11 := i_eq.mp c_11
      have a_12 : ((x1 + (1 : Int32))).toInt = (x1).toInt + ((1 : Int32)).toInt := i_add (by omega) (by omega)
      refine Sf.b (fun x1_78 e_x1_78 => ?_)
      have d_x1_78 := congrArg Int32.toInt e_x1_78
      exact (hih48 _ ⟨by omega, by omega⟩ (by omega))
    · have c_11 := i_ne c_11
      have n_13 : ((0 : Int32)).toInt = 0 := rfl
      have z_14 : (0 : Int) ≤ ((0 : Int32)).toInt ∧ ((0 : Int32)).toInt ≤ 1 := ⟨by omega, by omega⟩
      exact Sf.ok z_14
theorem sX1_isSameFromOtherEnd_l48_n {f : Bool} {k0 : Nat} (hk0 : isP k0) {M : Mem} (h_M : OKb f M) : ∀ (n : Nat) (x1 : Int32) (hx1 : (0 : Int) ≤ (x1).toInt ∧ (x1).toInt ≤ 8) (hmu : 8 - (x1).toInt < n), Sf (mX1_isSameFromOtherEnd_l48 k0 M n x1) (pI (0) (1)) := by
  intro n
  induction n with
  | zero => intro x1 hx1 hmu; exfalso; omega
  | succ n IH => intro x1 hx1 hmu; exact sX1_isSameFromOtherEnd_b48 hk0 h_M hx1  IH (by omega)
theorem sX1_isSameFromOtherEnd_l48 {f : Bool} {k0 : Nat} (hk0 : isP k0) {M : Mem} {x1 : Int32} (h_M : OKb f M) (hx1 : (0 : Int) ≤ (x1).toInt ∧ (x1).toInt ≤ 8)  (hmu : 8 - (x1).toInt < 5000) : Sf (mX1_isSameFromOtherEnd_l48 k0 M 5000 x1) (pI (0) (1)) :=
  sX1_isSameFromOtherEnd_l48_n hk0 h_M  5000 _ hx1 hmu
set_option maxHeartbeats 2000000 in
theorem sX1_isSameFromOtherEnd_b46 {f : Bool} {k0 : Nat} {M : Mem} (hk0 : isP k0) (h_M : OKb f M) : Sf (mX1_isSameFromOtherEnd_b46 k0 M) (pI (0) (1)) := by
  unfold mX1_isSameFromOtherEnd_b46
  have n_1 : ((0 : Int32)).toInt = 0 := rfl
  exact (sX1_isSameFromOtherEnd_l48 hk0 h_M ⟨by omega, by omega⟩ (by omega))
set_option maxHeartbeats 2000000 in
theorem sX1_isSameFromOtherEnd_b2 {f : Bool} {k0 : Nat} {M : Mem} {ih2 : Int32 → Option Int32} {x1 : Int32} {d2 : Nat} (hk0 : isP k0) (h_M : OKb f M) (hx1 : (0 : Int) ≤ (x1).toInt ∧ (x1).toInt ≤ 9) (hih2 : ∀ (yx1 : Int32), ((0 : Int) ≤ (yx1).toInt ∧ (yx1).toInt ≤ 9) → 9 - (yx1).toInt < d2 → Sf (ih2 yx1) (pI (0) (1))) (hmu2 : 9 - (x1).toInt ≤ d2) : Sf (mX1_isSameFromOtherEnd_b2 k0 M ih2 x1) (pI (0) (1)) := by
  unfold mX1_isSameFromOtherEnd_b2
  have b_1 : (0 : Int) ≤ (rd M k0 0).toInt ∧ (rd M k0 0).toInt ≤ 9 := h_M.at (bx_P0 hk0)
  refine Sf.i (fun c_2 => ?_) (fun c_2 => ?_)
  · have c_2 := i_le.mp c_2
    exact (sX1_isSameFromOtherEnd_b46 hk0 h_M)
  · have c_2 := i_nle c_2
    have n_3 : ((9 : Int32)).toInt = 9 := rfl
    refine Sf.i (fun c_4 => ?_) (fun c_4 => ?_)
    · have c_4 := i_le.mp c_4
      exfalso; omega
    · have c_4 := i_nle c_4
      refine Sf.k (ok_in (by omega) (by omega)) ?_
      have n_5 : ((1 : Int32)).toInt = 1 := rfl
      have a_6 : (((rd M k0 0) - (1 : Int32))).toInt = ((rd M k0 0)).toInt - ((1 : Int32)).toInt := i_sub (by omega) (by omega)
      have a_7 : ((((rd M k0 0) - (1 : Int32)) - x1)).toInt = (((rd M k0 0) - (1 : Int32))).toInt - (x1).toInt := i_sub (by omega) (by omega)
      refine Sf.k (ok_in (by omega) (by omega)) ?_
      have b_8 : (0 : Int) ≤ (rd M (k0 + 1) ((x1).toNatClampNeg)).toInt ∧ (rd M (k0 + 1) ((x1).toNatClampNeg)).toInt ≤ 9999 := h_M.at (bx_P (c := 1) hk0 (by omega))
      have b_9 : (0 : Int) ≤ (rd M (k0 + 1) (((((rd M k0 0) - (1 : Int32)) - x1)).toNatClampNeg)).toInt ∧ (rd M (k0 + 1) (((((rd M k0 0) - (1 : Int32)) - x1)).toNatClampNeg)).toInt ≤ 9999 := h_M.at (bx_P (c := 1) hk0 (by omega))
      refine Sf.i (fun c_10 => ?_) (fun c_10 => ?_)
      · have c_10 := i_eq.mp c_10
        have a_11 : ((x1 + (1 : Int32))).toInt = (x1).toInt + ((1 : Int32)).toInt := i_add (by omega) (by omega)
        refine Sf.b (fun x1_40 e_x1_40 => ?_)
        have d_x1_40 := congrArg Int32.toInt e_x1_40
        exact (hih2 _ ⟨by omega, by omega⟩ (by omega))
      · have c_10 := i_ne c_10
        have n_12 : ((0 : Int32)).toInt = 0 := rfl
        have z_13 : (0 : Int) ≤ ((0 : Int32)).toInt ∧ ((0 : Int32)).toInt ≤ 1 := ⟨by omega, by omega⟩
        exact Sf.ok z_13
theorem sX1_isSameFromOtherEnd_l2_n {f : Bool} {k0 : Nat} (hk0 : isP k0) {M : Mem} (h_M : OKb f M) : ∀ (n : Nat) (x1 : Int32) (hx1 : (0 : Int) ≤ (x1).toInt ∧ (x1).toInt ≤ 9) (hmu : 9 - (x1).toInt < n), Sf (mX1_isSameFromOtherEnd_l2 k0 M n x1) (pI (0) (1)) := by
  intro n
  induction n with
  | zero => intro x1 hx1 hmu; exfalso; omega
  | succ n IH => intro x1 hx1 hmu; exact sX1_isSameFromOtherEnd_b2 hk0 h_M hx1  IH (by omega)
theorem sX1_isSameFromOtherEnd_l2 {f : Bool} {k0 : Nat} (hk0 : isP k0) {M : Mem} {x1 : Int32} (h_M : OKb f M) (hx1 : (0 : Int) ≤ (x1).toInt ∧ (x1).toInt ≤ 9)  (hmu : 9 - (x1).toInt < 5000) : Sf (mX1_isSameFromOtherEnd_l2 k0 M 5000 x1) (pI (0) (1)) :=
  sX1_isSameFromOtherEnd_l2_n hk0 h_M  5000 _ hx1 hmu
set_option maxHeartbeats 2000000 in
theorem sX1_isSameFromOtherEnd {f : Bool} {k0 : Nat} {M : Mem} (hk0 : isP k0) (h_M : OKb f M) : Sf (mX1_isSameFromOtherEnd k0 M) (pI (0) (1)) := by
  unfold mX1_isSameFromOtherEnd
  have n_1 : ((0 : Int32)).toInt = 0 := rfl
  exact (sX1_isSameFromOtherEnd_l2 hk0 h_M ⟨by omega, by omega⟩ (by omega))
set_option maxHeartbeats 2000000 in
theorem sX1_springBackAt_b73 {f : Bool} {k0 : Nat} {M : Mem} (hk0 : isP k0) (h_M : OKb f M) (he0 : (1 : Int) ≤ (rd M k0 10).toInt ∧ (rd M k0 10).toInt ≤ 8) : Sf (mX1_springBackAt_b73 k0 M) (pD) := by
  unfold mX1_springBackAt_b73
  have b_1 : (0 : Int) ≤ (rd M k0 10).toInt ∧ (rd M k0 10).toInt ≤ 8 := h_M.at (bx_P0 hk0)
  have n_2 : ((1 : Int32)).toInt = 1 := rfl
  have a_3 : (((rd M k0 10) - (1 : Int32))).toInt = ((rd M k0 10)).toInt - ((1 : Int32)).toInt := i_sub (by omega) (by omega)
  refine Sf.k (ok_in (by omega) (by omega)) ?_
  exact Sf.ok trivial
set_option maxHeartbeats 2000000 in
theorem sX1_springBackAt_b31 {f : Bool} {k0 : Nat} {M : Mem} {ih31 : UInt64 → Int32 → Option UInt64} {x1 : UInt64} {x3 : Int32} {d31 : Nat} (hk0 : isP k0) (h_M : OKb f M) (hx3 : (1 : Int) ≤ (x3).toInt ∧ (x3).toInt ≤ 8) (he0 : (1 : Int) ≤ (rd M k0 10).toInt ∧ (rd M k0 10).toInt ≤ 8) (hih31 : ∀ (yx1 : UInt64) (yx3 : Int32), ((1 : Int) ≤ (yx3).toInt ∧ (yx3).toInt ≤ 8) → 8 - (yx3).toInt < d31 → Sf (ih31 yx1 yx3) (pD)) (hmu31 : 8 - (x3).toInt ≤ d31) : Sf (mX1_springBackAt_b31 k0 M ih31 x1 x3) (pD) := by
  unfold mX1_springBackAt_b31
  have b_1 : (0 : Int) ≤ (rd M k0 10).toInt ∧ (rd M k0 10).toInt ≤ 8 := h_M.at (bx_P0 hk0)
  refine Sf.i (fun c_2 => ?_) (fun c_2 => ?_)
  · have c_2 := i_le.mp c_2
    exact (sX1_springBackAt_b73 hk0 h_M ⟨by omega, by omega⟩)
  · have c_2 := i_nle c_2
    have n_3 : ((8 : Int32)).toInt = 8 := rfl
    refine Sf.i (fun c_4 => ?_) (fun c_4 => ?_)
    · have c_4 := i_le.mp c_4
      exfalso; omega
    · have c_4 := i_nle c_4
      refine Sf.k (ok_in (by omega) (by omega)) ?_
      have n_5 : ((0 : Int32)).toInt = 0 := rfl
      refine Sf.i (fun c_6 => ?_) (fun c_6 => ?_)
      · have c_6 := i_lt.mp c_6
        have n_7 : ((1 : Int32)).toInt = 1 := rfl
        have a_8 : ((x3 + (1 : Int32))).toInt = (x3).toInt + ((1 : Int32)).toInt := i_add (by omega) (by omega)
        refine Sf.b (fun x3_67 e_x3_67 => ?_)
        have d_x3_67 := congrArg Int32.toInt e_x3_67
        exact (hih31 _ _ ⟨by omega, by omega⟩ (by omega))
      · have c_6 := i_nlt c_6
        have n_9 : ((1 : Int32)).toInt = 1 := rfl
        have a_10 : ((x3 - (1 : Int32))).toInt = (x3).toInt - ((1 : Int32)).toInt := i_sub (by omega) (by omega)
        refine Sf.c (sX1_springBackBetween hk0 h_M ⟨by omega, by omega⟩ ⟨by omega, by omega⟩) (fun r11 _ => ?_)
        exact Sf.ok trivial
theorem sX1_springBackAt_l31_n {f : Bool} {k0 : Nat} (hk0 : isP k0) {M : Mem} (h_M : OKb f M) (he0 : (1 : Int) ≤ (rd M k0 10).toInt ∧ (rd M k0 10).toInt ≤ 8): ∀ (n : Nat) (x1 : UInt64) (x3 : Int32) (hx3 : (1 : Int) ≤ (x3).toInt ∧ (x3).toInt ≤ 8) (hmu : 8 - (x3).toInt < n), Sf (mX1_springBackAt_l31 k0 M n x1 x3) (pD) := by
  intro n
  induction n with
  | zero => intro x1 x3 hx3 hmu; exfalso; omega
  | succ n IH => intro x1 x3 hx3 hmu; exact sX1_springBackAt_b31 hk0 h_M hx3 he0 IH (by omega)
theorem sX1_springBackAt_l31 {f : Bool} {k0 : Nat} (hk0 : isP k0) {M : Mem} {x1 : UInt64} {x3 : Int32} (h_M : OKb f M) (hx3 : (1 : Int) ≤ (x3).toInt ∧ (x3).toInt ≤ 8) (he0 : (1 : Int) ≤ (rd M k0 10).toInt ∧ (rd M k0 10).toInt ≤ 8) (hmu : 8 - (x3).toInt < 5000) : Sf (mX1_springBackAt_l31 k0 M 5000 x1 x3) (pD) :=
  sX1_springBackAt_l31_n hk0 h_M he0 5000 _ _ hx3 hmu
set_option maxHeartbeats 2000000 in
theorem sX1_springBackAt {f : Bool} {k0 : Nat} {x1 : UInt64} {M : Mem} (hk0 : isP k0) (h_M : OKb f M) : Sf (mX1_springBackAt k0 x1 M) (pD) := by
  unfold mX1_springBackAt
  have b_1 : (0 : Int) ≤ (rd M k0 10).toInt ∧ (rd M k0 10).toInt ≤ 8 := h_M.at (bx_P0 hk0)
  have n_2 : ((0 : Int32)).toInt = 0 := rfl
  refine Sf.i (fun c_3 => ?_) (fun c_3 => ?_)
  · have c_3 := i_eq.mp c_3
    exact Sf.ok trivial
  · have c_3 := i_ne c_3
    have n_4 : ((0 : Int32)).toInt = 0 := rfl
    refine Sf.k (ok_in (by omega) (by omega)) ?_
    refine Sf.i (fun c_5 => ?_) (fun c_5 => ?_)
    · have c_5 := i_lt.mp c_5
      have n_6 : ((1 : Int32)).toInt = 1 := rfl
      exact (sX1_springBackAt_l31 hk0 h_M ⟨by omega, by omega⟩ ⟨by omega, by omega⟩ (by omega))
    · have c_5 := i_nlt c_5
      refine Sf.k (ok_in (by omega) (by omega)) ?_
      exact Sf.ok trivial
set_option maxHeartbeats 2000000 in
theorem sX1_addStep {f : Bool} {k0 : Nat} {x1 : Int32} {x2 : Int32} {x3 : Int32} {M : Mem} (hk0 : isP k0) (h_M : OKb f M) (hx1 : (0 : Int) ≤ (x1).toInt ∧ (x1).toInt ≤ 15) (hx2 : (0 : Int) ≤ (x2).toInt ∧ (x2).toInt ≤ 2147483647) (hx3 : (0 : Int) ≤ (x3).toInt ∧ (x3).toInt ≤ 297) : Sf (mX1_addStep k0 x1 x2 x3 M) (pM f) := by
  unfold mX1_addStep
  have n_1 : ((8 : Int32)).toInt = 8 := rfl
  have b_2 : (0 : Int) ≤ (rd M k0 14).toInt ∧ (rd M k0 14).toInt ≤ 8 := h_M.at (bx_P0 hk0)
  refine Sf.i (fun c_3 => ?_) (fun c_3 => ?_)
  · have c_3 := i_le.mp c_3
    exact Sf.ok h_M
  · have c_3 := i_nle c_3
    refine Sf.k (ok_in (by omega) (by omega)) ?_
    have z_4 : (0 : Int) ≤ (x1).toInt ∧ (x1).toInt ≤ 15 := ⟨by omega, by omega⟩
    refine Sf.b (fun M4 e_M4 => ?_)
    have h_M4 : OKb f M4 := by rw [e_M4]; exact h_M.put (bx_P (c := 5) hk0 (by omega)) z_4
    have w_5 : (rd M4 k0 14).toInt = (rd M k0 14).toInt := by rw [e_M4, rd_wk (by omega)]
    refine Sf.k (ok_in (by omega) (by omega)) ?_
    refine Sf.b (fun M7 e_M7 => ?_)
    have h_M7 : OKb f M7 := by rw [e_M7]; exact h_M4.put (bx_P (c := 6) hk0 (by omega)) (i_rng _)
    have w_6 : (rd M7 k0 14).toInt = (rd M4 k0 14).toInt := by rw [e_M7, rd_wk (by omega)]
    have w_7 : (rd M4 k0 14).toInt = (rd M k0 14).toInt := by rw [e_M4, rd_wk (by omega)]
    refine Sf.k (ok_in (by omega) (by omega)) ?_
    have z_8 : (0 : Int) ≤ (x3).toInt ∧ (x3).toInt ≤ 297 := ⟨by omega, by omega⟩
    refine Sf.b (fun M10 e_M10 => ?_)
    have h_M10 : OKb f M10 := by rw [e_M10]; exact h_M7.put (bx_P (c := 7) hk0 (by omega)) z_8
    have w_9 : (rd M10 k0 14).toInt = (rd M7 k0 14).toInt := by rw [e_M10, rd_wk (by omega)]
    have w_10 : (rd M7 k0 14).toInt = (rd M4 k0 14).toInt := by rw [e_M7, rd_wk (by omega)]
    have w_11 : (rd M4 k0 14).toInt = (rd M k0 14).toInt := by rw [e_M4, rd_wk (by omega)]
    have n_12 : ((1 : Int32)).toInt = 1 := rfl
    have a_13 : (((rd M10 k0 14) + (1 : Int32))).toInt = ((rd M10 k0 14)).toInt + ((1 : Int32)).toInt := i_add (by omega) (by omega)
    have z_14 : (0 : Int) ≤ (((rd M10 k0 14) + (1 : Int32))).toInt ∧ (((rd M10 k0 14) + (1 : Int32))).toInt ≤ 8 := ⟨by omega, by omega⟩
    refine Sf.b (fun M11 e_M11 => ?_)
    have h_M11 : OKb f M11 := by rw [e_M11]; exact h_M10.put (bx_P0 hk0) z_14
    have w_15 : (rd M11 k0 13).toInt = (rd M10 k0 13).toInt := by rw [e_M11, rd_wj (by decide)]
    have w_16 : (rd M10 k0 13).toInt = (rd M7 k0 13).toInt := by rw [e_M10, rd_wk (by omega)]
    have w_17 : (rd M7 k0 13).toInt = (rd M4 k0 13).toInt := by rw [e_M7, rd_wk (by omega)]
    have w_18 : (rd M4 k0 13).toInt = (rd M k0 13).toInt := by rw [e_M4, rd_wk (by omega)]
    have b_19 : (0 : Int) ≤ (rd M k0 13).toInt ∧ (rd M k0 13).toInt ≤ 255 := h_M.at (bx_P0 hk0)
    have a_20 := i_shr1 (a := x1)
    have a_21 : 0 < (((1 : Int32) <<< ((x1 >>> ((1 : Int32) &&& 31)) &&& 31))).toInt ∧ (((1 : Int32) <<< ((x1 >>> ((1 : Int32) &&& 31)) &&& 31))).toInt ≤ 128 := i_shl 7 (by decide) ⟨by omega, by omega⟩
    have a_22 : 0 ≤ (((rd M11 k0 13) ||| ((1 : Int32) <<< ((x1 >>> ((1 : Int32) &&& 31)) &&& 31)))).toInt ∧ (((rd M11 k0 13) ||| ((1 : Int32) <<< ((x1 >>> ((1 : Int32) &&& 31)) &&& 31)))).toInt < 256 := i_or 8 (by decide) ⟨by omega, by omega⟩ ⟨by omega, by omega⟩
    have z_23 : (0 : Int) ≤ (((rd M11 k0 13) ||| ((1 : Int32) <<< ((x1 >>> ((1 : Int32) &&& 31)) &&& 31)))).toInt ∧ (((rd M11 k0 13) ||| ((1 : Int32) <<< ((x1 >>> ((1 : Int32) &&& 31)) &&& 31)))).toInt ≤ 255 := ⟨by omega, by omega⟩
    refine Sf.b (fun M13 e_M13 => ?_)
    have h_M13 : OKb f M13 := by rw [e_M13]; exact h_M11.put (bx_P0 hk0) z_23
    exact Sf.ok h_M13
set_option maxHeartbeats 2000000 in
theorem sX1_lastCode {f : Bool} {k0 : Nat} {M : Mem} (hk0 : isP k0) (h_M : OKb f M) : Sf (mX1_lastCode k0 M) (pI (-1) (15)) := by
  unfold mX1_lastCode
  have b_1 : (0 : Int) ≤ (rd M k0 14).toInt ∧ (rd M k0 14).toInt ≤ 8 := h_M.at (bx_P0 hk0)
  have n_2 : ((0 : Int32)).toInt = 0 := rfl
  refine Sf.i (fun c_3 => ?_) (fun c_3 => ?_)
  · have c_3 := i_le.mp c_3
    have n_4 : (((-1) : Int32)).toInt = -1 := rfl
    have z_5 : (-1 : Int) ≤ (((-1) : Int32)).toInt ∧ (((-1) : Int32)).toInt ≤ 15 := ⟨by omega, by omega⟩
    exact Sf.ok z_5
  · have c_3 := i_nle c_3
    have n_6 : ((1 : Int32)).toInt = 1 := rfl
    have a_7 : (((rd M k0 14) - (1 : Int32))).toInt = ((rd M k0 14)).toInt - ((1 : Int32)).toInt := i_sub (by omega) (by omega)
    refine Sf.k (ok_in (by omega) (by omega)) ?_
    have b_8 : (0 : Int) ≤ (rd M (k0 + 5) ((((rd M k0 14) - (1 : Int32))).toNatClampNeg)).toInt ∧ (rd M (k0 + 5) ((((rd M k0 14) - (1 : Int32))).toNatClampNeg)).toInt ≤ 15 := h_M.at (bx_P (c := 5) hk0 (by omega))
    have z_9 : (-1 : Int) ≤ ((rd M (k0 + 5) ((((rd M k0 14) - (1 : Int32))).toNatClampNeg))).toInt ∧ ((rd M (k0 + 5) ((((rd M k0 14) - (1 : Int32))).toNatClampNeg))).toInt ≤ 15 := ⟨by omega, by omega⟩
    exact Sf.ok z_9
set_option maxHeartbeats 2000000 in
theorem sX1_lastGauge {f : Bool} {k0 : Nat} {M : Mem} (hk0 : isP k0) (h_M : OKb f M) : Sf (mX1_lastGauge k0 M) (pI (-2147483648) (2147483647)) := by
  unfold mX1_lastGauge
  have b_1 : (0 : Int) ≤ (rd M k0 14).toInt ∧ (rd M k0 14).toInt ≤ 8 := h_M.at (bx_P0 hk0)
  have n_2 : ((0 : Int32)).toInt = 0 := rfl
  refine Sf.i (fun c_3 => ?_) (fun c_3 => ?_)
  · have c_3 := i_le.mp c_3
    exact Sf.ok (i_rng _)
  · have c_3 := i_nle c_3
    have n_4 : ((1 : Int32)).toInt = 1 := rfl
    have a_5 : (((rd M k0 14) - (1 : Int32))).toInt = ((rd M k0 14)).toInt - ((1 : Int32)).toInt := i_sub (by omega) (by omega)
    refine Sf.k (ok_in (by omega) (by omega)) ?_
    exact Sf.ok (i_rng _)
set_option maxHeartbeats 2000000 in
theorem sX1_sumOfCosts_b4 {f : Bool} {k0 : Nat} {M : Mem} {ih4 : Int32 → Int32 → Option Int32} {x1 : Int32} {x2 : Int32} {d4 : Nat} (hk0 : isP k0) (h_M : OKb f M) (hx2 : (0 : Int) ≤ (x2).toInt ∧ (x2).toInt ≤ 8) (hih4 : ∀ (yx1 : Int32) (yx2 : Int32), ((0 : Int) ≤ (yx2).toInt ∧ (yx2).toInt ≤ 8) → 8 - (yx2).toInt < d4 → Sf (ih4 yx1 yx2) (pI (-2147483648) (2147483647))) (hmu4 : 8 - (x2).toInt ≤ d4) : Sf (mX1_sumOfCosts_b4 k0 M ih4 x1 x2) (pI (-2147483648) (2147483647)) := by
  unfold mX1_sumOfCosts_b4
  have b_1 : (0 : Int) ≤ (rd M k0 14).toInt ∧ (rd M k0 14).toInt ≤ 8 := h_M.at (bx_P0 hk0)
  refine Sf.i (fun c_2 => ?_) (fun c_2 => ?_)
  · have c_2 := i_le.mp c_2
    exact Sf.ok (i_rng _)
  · have c_2 := i_nle c_2
    have n_3 : ((8 : Int32)).toInt = 8 := rfl
    refine Sf.i (fun c_4 => ?_) (fun c_4 => ?_)
    · have c_4 := i_le.mp c_4
      exfalso; omega
    · have c_4 := i_nle c_4
      refine Sf.k (ok_in (by omega) (by omega)) ?_
      have b_5 : (0 : Int) ≤ (rd M (k0 + 7) ((x2).toNatClampNeg)).toInt ∧ (rd M (k0 + 7) ((x2).toNatClampNeg)).toInt ≤ 297 := h_M.at (bx_P (c := 7) hk0 (by omega))
      refine Sf.b (fun x1_26 e_x1_26 => ?_)
      have d_x1_26 := congrArg Int32.toInt e_x1_26
      have n_6 : ((1 : Int32)).toInt = 1 := rfl
      have a_7 : ((x2 + (1 : Int32))).toInt = (x2).toInt + ((1 : Int32)).toInt := i_add (by omega) (by omega)
      refine Sf.b (fun x2_27 e_x2_27 => ?_)
      have d_x2_27 := congrArg Int32.toInt e_x2_27
      exact (hih4 _ _ ⟨by omega, by omega⟩ (by omega))
theorem sX1_sumOfCosts_l4_n {f : Bool} {k0 : Nat} (hk0 : isP k0) {M : Mem} (h_M : OKb f M) : ∀ (n : Nat) (x1 : Int32) (x2 : Int32) (hx2 : (0 : Int) ≤ (x2).toInt ∧ (x2).toInt ≤ 8) (hmu : 8 - (x2).toInt < n), Sf (mX1_sumOfCosts_l4 k0 M n x1 x2) (pI (-2147483648) (2147483647)) := by
  intro n
  induction n with
  | zero => intro x1 x2 hx2 hmu; exfalso; omega
  | succ n IH => intro x1 x2 hx2 hmu; exact sX1_sumOfCosts_b4 hk0 h_M hx2  IH (by omega)
theorem sX1_sumOfCosts_l4 {f : Bool} {k0 : Nat} (hk0 : isP k0) {M : Mem} {x1 : Int32} {x2 : Int32} (h_M : OKb f M) (hx2 : (0 : Int) ≤ (x2).toInt ∧ (x2).toInt ≤ 8)  (hmu : 8 - (x2).toInt < 5000) : Sf (mX1_sumOfCosts_l4 k0 M 5000 x1 x2) (pI (-2147483648) (2147483647)) :=
  sX1_sumOfCosts_l4_n hk0 h_M  5000 _ _ hx2 hmu
set_option maxHeartbeats 2000000 in
theorem sX1_sumOfCosts {f : Bool} {k0 : Nat} {M : Mem} (hk0 : isP k0) (h_M : OKb f M) : Sf (mX1_sumOfCosts k0 M) (pI (-2147483648) (2147483647)) := by
  unfold mX1_sumOfCosts
  have n_1 : ((0 : Int32)).toInt = 0 := rfl
  exact (sX1_sumOfCosts_l4 hk0 h_M ⟨by omega, by omega⟩ (by omega))
set_option maxHeartbeats 2000000 in
theorem sX1_priceBetween_b54 {f : Bool} {k0 : Nat} {M : Mem} {x2 : Int32} {x4 : Int32} {x5 : Int32} (hk0 : isP k0) (h_M : OKb f M) (hx4 : (0 : Int) ≤ (x4).toInt ∧ (x4).toInt ≤ 2147483647) (hx5 : (0 : Int) ≤ (x5).toInt ∧ (x5).toInt ≤ 198) : Sf (mX1_priceBetween_b54 k0 M x2 x4 x5) (pI (0) (297)) := by
  unfold mX1_priceBetween_b54
  refine Sf.i (fun c_1 => ?_) (fun c_1 => ?_)
  · have c_1 := i_eq.mp c_1
    have z_2 : (0 : Int) ≤ (x5).toInt ∧ (x5).toInt ≤ 297 := ⟨by omega, by omega⟩
    exact Sf.ok z_2
  · have c_1 := i_ne c_1
    have b_3 : (0 : Int) ≤ (rd M k0 9).toInt ∧ (rd M k0 9).toInt ≤ 99 := h_M.at (bx_P0 hk0)
    have a_4 : ((x5 + (rd M k0 9))).toInt = (x5).toInt + ((rd M k0 9)).toInt := i_add (by omega) (by omega)
    refine Sf.b (fun x5_67 e_x5_67 => ?_)
    have d_x5_67 := congrArg Int32.toInt e_x5_67
    have z_5 : (0 : Int) ≤ (x5_67).toInt ∧ (x5_67).toInt ≤ 297 := ⟨by omega, by omega⟩
    exact Sf.ok z_5
set_option maxHeartbeats 2000000 in
theorem sX1_priceBetween_b36 {f : Bool} {k0 : Nat} {M : Mem} {x1 : Int32} {x2 : Int32} {x3 : Int32} {x4 : Int32} {x5 : Int32} (hk0 : isP k0) (h_M : OKb f M) (hx1 : (0 : Int) ≤ (x1).toInt ∧ (x1).toInt ≤ 15) (hx3 : (0 : Int) ≤ (x3).toInt ∧ (x3).toInt ≤ 15) (hx4 : (0 : Int) ≤ (x4).toInt ∧ (x4).toInt ≤ 2147483647) (hx5 : (0 : Int) ≤ (x5).toInt ∧ (x5).toInt ≤ 99) : Sf (mX1_priceBetween_b36 k0 M x1 x2 x3 x4 x5) (pI (0) (297)) := by
  unfold mX1_priceBetween_b36
  have n_1 : ((1 : Int32)).toInt = 1 := rfl
  have a_2 := i_and (a := x1) (b := (1 : Int32)) (by omega)
  have a_3 := i_andr (a := x1) (b := (1 : Int32)) (by omega)
  have a_4 := i_and (a := x3) (b := (1 : Int32)) (by omega)
  have a_5 := i_andr (a := x3) (b := (1 : Int32)) (by omega)
  refine Sf.i (fun c_6 => ?_) (fun c_6 => ?_)
  · have c_6 := i_eq.mp c_6
    exact (sX1_priceBetween_b54 hk0 h_M ⟨by omega, by omega⟩ ⟨by omega, by omega⟩)
  · have c_6 := i_ne c_6
    have b_7 : (0 : Int) ≤ (rd M k0 8).toInt ∧ (rd M k0 8).toInt ≤ 99 := h_M.at (bx_P0 hk0)
    have a_8 : ((x5 + (rd M k0 8))).toInt = (x5).toInt + ((rd M k0 8)).toInt := i_add (by omega) (by omega)
    refine Sf.b (fun x5_52 e_x5_52 => ?_)
    have d_x5_52 := congrArg Int32.toInt e_x5_52
    exact (sX1_priceBetween_b54 hk0 h_M ⟨by omega, by omega⟩ ⟨by omega, by omega⟩)
set_option maxHeartbeats 2000000 in
theorem sX1_priceBetween {f : Bool} {k0 : Nat} {x1 : Int32} {x2 : Int32} {x3 : Int32} {x4 : Int32} {M : Mem} (hk0 : isP k0) (h_M : OKb f M) (hx1 : (-1 : Int) ≤ (x1).toInt ∧ (x1).toInt ≤ 15) (hx3 : (0 : Int) ≤ (x3).toInt ∧ (x3).toInt ≤ 15) (hx4 : (0 : Int) ≤ (x4).toInt ∧ (x4).toInt ≤ 2147483647) : Sf (mX1_priceBetween k0 x1 x2 x3 x4 M) (pI (0) (297)) := by
  unfold mX1_priceBetween
  have n_1 : (((-1) : Int32)).toInt = -1 := rfl
  refine Sf.i (fun c_2 => ?_) (fun c_2 => ?_)
  · have c_2 := i_eq.mp c_2
    have n_3 : ((0 : Int32)).toInt = 0 := rfl
    have z_4 : (0 : Int) ≤ ((0 : Int32)).toInt ∧ ((0 : Int32)).toInt ≤ 297 := ⟨by omega, by omega⟩
    exact Sf.ok z_4
  · have c_2 := i_ne c_2
    have a_5 := i_shr1 (a := x1)
    refine Sf.c (sX1_goesUp hk0 h_M ⟨by omega, by omega⟩) (fun r3 p_6 => ?_)
    obtain ⟨p_6a, p_6b⟩ := p_6
    have a_7 := i_shr1 (a := x3)
    refine Sf.c (sX1_goesUp hk0 h_M ⟨by omega, by omega⟩) (fun r6 p_8 => ?_)
    obtain ⟨p_8a, p_8b⟩ := p_8
    refine Sf.i (fun c_9 => ?_) (fun c_9 => ?_)
    · have c_9 := i_eq.mp c_9
      have n_10 : ((0 : Int32)).toInt = 0 := rfl
      exact (sX1_priceBetween_b36 hk0 h_M ⟨by omega, by omega⟩ ⟨by omega, by omega⟩ ⟨by omega, by omega⟩ ⟨by omega, by omega⟩)
    · have c_9 := i_ne c_9
      have n_11 : ((0 : Int32)).toInt = 0 := rfl
      have b_12 : (0 : Int) ≤ (rd M k0 7).toInt ∧ (rd M k0 7).toInt ≤ 99 := h_M.at (bx_P0 hk0)
      have a_13 : (((0 : Int32) + (rd M k0 7))).toInt = ((0 : Int32)).toInt + ((rd M k0 7)).toInt := i_add (by omega) (by omega)
      refine Sf.b (fun x5_34 e_x5_34 => ?_)
      have d_x5_34 := congrArg Int32.toInt e_x5_34
      exact (sX1_priceBetween_b36 hk0 h_M ⟨by omega, by omega⟩ ⟨by omega, by omega⟩ ⟨by omega, by omega⟩ ⟨by omega, by omega⟩)
set_option maxHeartbeats 2000000 in
theorem sX1_bendsLike_b65 {f : Bool} {k0 : Nat} {k1 : Nat} {M : Mem} {ih65 : Int32 → Option Int32} {x2 : Int32} {d65 : Nat} (hk0 : isP k0) (hk1 : isP k1) (h_M : OKb f M) (hx2 : (0 : Int) ≤ (x2).toInt ∧ (x2).toInt ≤ 10) (hih65 : ∀ (yx2 : Int32), ((0 : Int) ≤ (yx2).toInt ∧ (yx2).toInt ≤ 10) → 10 - (yx2).toInt < d65 → Sf (ih65 yx2) (pI (0) (1))) (hmu65 : 10 - (x2).toInt ≤ d65) : Sf (mX1_bendsLike_b65 k0 k1 M ih65 x2) (pI (0) (1)) := by
  unfold mX1_bendsLike_b65
  have n_1 : ((10 : Int32)).toInt = 10 := rfl
  refine Sf.i (fun c_2 => ?_) (fun c_2 => ?_)
  · have c_2 := i_le.mp c_2
    have n_3 : ((1 : Int32)).toInt = 1 := rfl
    have z_4 : (0 : Int) ≤ ((1 : Int32)).toInt ∧ ((1 : Int32)).toInt ≤ 1 := ⟨by omega, by omega⟩
    exact Sf.ok z_4
  · have c_2 := i_nle c_2
    refine Sf.k (ok_in (by omega) (by omega)) ?_
    refine Sf.k (ok_in (by omega) (by omega)) ?_
    refine Sf.i (fun c_5 => ?_) (fun c_5 => ?_)
    · have c_5 := i_eq.mp c_5
      have n_6 : ((1 : Int32)).toInt = 1 := rfl
      have a_7 : ((x2 + (1 : Int32))).toInt = (x2).toInt + ((1 : Int32)).toInt := i_add (by omega) (by omega)
      refine Sf.b (fun x2_88 e_x2_88 => ?_)
      have d_x2_88 := congrArg Int32.toInt e_x2_88
      exact (hih65 _ ⟨by omega, by omega⟩ (by omega))
    · have c_5 := i_ne c_5
      have n_8 : ((0 : Int32)).toInt = 0 := rfl
      have z_9 : (0 : Int) ≤ ((0 : Int32)).toInt ∧ ((0 : Int32)).toInt ≤ 1 := ⟨by omega, by omega⟩
      exact Sf.ok z_9
theorem sX1_bendsLike_l65_n {f : Bool} {k0 : Nat} (hk0 : isP k0) {k1 : Nat} (hk1 : isP k1) {M : Mem} (h_M : OKb f M) : ∀ (n : Nat) (x2 : Int32) (hx2 : (0 : Int) ≤ (x2).toInt ∧ (x2).toInt ≤ 10) (hmu : 10 - (x2).toInt < n), Sf (mX1_bendsLike_l65 k0 k1 M n x2) (pI (0) (1)) := by
  intro n
  induction n with
  | zero => intro x2 hx2 hmu; exfalso; omega
  | succ n IH => intro x2 hx2 hmu; exact sX1_bendsLike_b65 hk0 hk1 h_M hx2  IH (by omega)
theorem sX1_bendsLike_l65 {f : Bool} {k0 : Nat} (hk0 : isP k0) {k1 : Nat} (hk1 : isP k1) {M : Mem} {x2 : Int32} (h_M : OKb f M) (hx2 : (0 : Int) ≤ (x2).toInt ∧ (x2).toInt ≤ 10)  (hmu : 10 - (x2).toInt < 5000) : Sf (mX1_bendsLike_l65 k0 k1 M 5000 x2) (pI (0) (1)) :=
  sX1_bendsLike_l65_n hk0 hk1 h_M  5000 _ hx2 hmu
set_option maxHeartbeats 2000000 in
theorem sX1_bendsLike_b63 {f : Bool} {k0 : Nat} {k1 : Nat} {M : Mem} (hk0 : isP k0) (hk1 : isP k1) (h_M : OKb f M) : Sf (mX1_bendsLike_b63 k0 k1 M) (pI (0) (1)) := by
  unfold mX1_bendsLike_b63
  have n_1 : ((0 : Int32)).toInt = 0 := rfl
  exact (sX1_bendsLike_l65 hk0 hk1 h_M ⟨by omega, by omega⟩ (by omega))
set_option maxHeartbeats 2000000 in
theorem sX1_bendsLike_b26 {f : Bool} {k0 : Nat} {k1 : Nat} {M : Mem} {ih26 : Int32 → Option Int32} {x2 : Int32} {d26 : Nat} (hk0 : isP k0) (hk1 : isP k1) (h_M : OKb f M) (hx2 : (0 : Int) ≤ (x2).toInt ∧ (x2).toInt ≤ 9) (hih26 : ∀ (yx2 : Int32), ((0 : Int) ≤ (yx2).toInt ∧ (yx2).toInt ≤ 9) → 9 - (yx2).toInt < d26 → Sf (ih26 yx2) (pI (0) (1))) (hmu26 : 9 - (x2).toInt ≤ d26) : Sf (mX1_bendsLike_b26 k0 k1 M ih26 x2) (pI (0) (1)) := by
  unfold mX1_bendsLike_b26
  have b_1 : (0 : Int) ≤ (rd M k0 0).toInt ∧ (rd M k0 0).toInt ≤ 9 := h_M.at (bx_P0 hk0)
  refine Sf.i (fun c_2 => ?_) (fun c_2 => ?_)
  · have c_2 := i_le.mp c_2
    exact (sX1_bendsLike_b63 hk0 hk1 h_M)
  · have c_2 := i_nle c_2
    have n_3 : ((9 : Int32)).toInt = 9 := rfl
    refine Sf.i (fun c_4 => ?_) (fun c_4 => ?_)
    · have c_4 := i_le.mp c_4
      exfalso; omega
    · have c_4 := i_nle c_4
      refine Sf.k (ok_in (by omega) (by omega)) ?_
      refine Sf.k (ok_in (by omega) (by omega)) ?_
      have b_5 : (0 : Int) ≤ (rd M (k0 + 1) ((x2).toNatClampNeg)).toInt ∧ (rd M (k0 + 1) ((x2).toNatClampNeg)).toInt ≤ 9999 := h_M.at (bx_P (c := 1) hk0 (by omega))
      have b_6 : (0 : Int) ≤ (rd M (k1 + 1) ((x2).toNatClampNeg)).toInt ∧ (rd M (k1 + 1) ((x2).toNatClampNeg)).toInt ≤ 9999 := h_M.at (bx_P (c := 1) hk1 (by omega))
      refine Sf.i (fun c_7 => ?_) (fun c_7 => ?_)
      · have c_7 := i_eq.mp c_7
        have n_8 : ((1 : Int32)).toInt = 1 := rfl
        have a_9 : ((x2 + (1 : Int32))).toInt = (x2).toInt + ((1 : Int32)).toInt := i_add (by omega) (by omega)
        refine Sf.b (fun x2_57 e_x2_57 => ?_)
        have d_x2_57 := congrArg Int32.toInt e_x2_57
        exact (hih26 _ ⟨by omega, by omega⟩ (by omega))
      · have c_7 := i_ne c_7
        have n_10 : ((0 : Int32)).toInt = 0 := rfl
        have z_11 : (0 : Int) ≤ ((0 : Int32)).toInt ∧ ((0 : Int32)).toInt ≤ 1 := ⟨by omega, by omega⟩
        exact Sf.ok z_11
theorem sX1_bendsLike_l26_n {f : Bool} {k0 : Nat} (hk0 : isP k0) {k1 : Nat} (hk1 : isP k1) {M : Mem} (h_M : OKb f M) : ∀ (n : Nat) (x2 : Int32) (hx2 : (0 : Int) ≤ (x2).toInt ∧ (x2).toInt ≤ 9) (hmu : 9 - (x2).toInt < n), Sf (mX1_bendsLike_l26 k0 k1 M n x2) (pI (0) (1)) := by
  intro n
  induction n with
  | zero => intro x2 hx2 hmu; exfalso; omega
  | succ n IH => intro x2 hx2 hmu; exact sX1_bendsLike_b26 hk0 hk1 h_M hx2  IH (by omega)
theorem sX1_bendsLike_l26 {f : Bool} {k0 : Nat} (hk0 : isP k0) {k1 : Nat} (hk1 : isP k1) {M : Mem} {x2 : Int32} (h_M : OKb f M) (hx2 : (0 : Int) ≤ (x2).toInt ∧ (x2).toInt ≤ 9)  (hmu : 9 - (x2).toInt < 5000) : Sf (mX1_bendsLike_l26 k0 k1 M 5000 x2) (pI (0) (1)) :=
  sX1_bendsLike_l26_n hk0 hk1 h_M  5000 _ hx2 hmu
set_option maxHeartbeats 2000000 in
theorem sX1_bendsLike {f : Bool} {k0 : Nat} {k1 : Nat} {M : Mem} (hk0 : isP k0) (hk1 : isP k1) (h_M : OKb f M) : Sf (mX1_bendsLike k0 k1 M) (pI (0) (1)) := by
  unfold mX1_bendsLike
  have b_1 : (0 : Int) ≤ (rd M k0 0).toInt ∧ (rd M k0 0).toInt ≤ 9 := h_M.at (bx_P0 hk0)
  have b_2 : (0 : Int) ≤ (rd M k1 0).toInt ∧ (rd M k1 0).toInt ≤ 9 := h_M.at (bx_P0 hk1)
  refine Sf.i (fun c_3 => ?_) (fun c_3 => ?_)
  · have c_3 := i_eq.mp c_3
    have b_4 : (0 : Int) ≤ (rd M k0 2).toInt ∧ (rd M k0 2).toInt ≤ 255 := h_M.at (bx_P0 hk0)
    have b_5 : (0 : Int) ≤ (rd M k1 2).toInt ∧ (rd M k1 2).toInt ≤ 255 := h_M.at (bx_P0 hk1)
    refine Sf.i (fun c_6 => ?_) (fun c_6 => ?_)
    · have c_6 := i_eq.mp c_6
      have n_7 : ((0 : Int32)).toInt = 0 := rfl
      exact (sX1_bendsLike_l26 hk0 hk1 h_M ⟨by omega, by omega⟩ (by omega))
    · have c_6 := i_ne c_6
      have n_8 : ((0 : Int32)).toInt = 0 := rfl
      have z_9 : (0 : Int) ≤ ((0 : Int32)).toInt ∧ ((0 : Int32)).toInt ≤ 1 := ⟨by omega, by omega⟩
      exact Sf.ok z_9
  · have c_3 := i_ne c_3
    have n_10 : ((0 : Int32)).toInt = 0 := rfl
    have z_11 : (0 : Int) ≤ ((0 : Int32)).toInt ∧ ((0 : Int32)).toInt ≤ 1 := ⟨by omega, by omega⟩
    exact Sf.ok z_11
set_option maxHeartbeats 2000000 in
theorem sX1_goesOnLike {f : Bool} {k0 : Nat} {k1 : Nat} {M : Mem} (hk0 : isP k0) (hk1 : isP k1) (h_M : OKb f M) : Sf (mX1_goesOnLike k0 k1 M) (pI (0) (1)) := by
  unfold mX1_goesOnLike
  have b_1 : (0 : Int) ≤ (rd M k0 13).toInt ∧ (rd M k0 13).toInt ≤ 255 := h_M.at (bx_P0 hk0)
  have b_2 : (0 : Int) ≤ (rd M k1 13).toInt ∧ (rd M k1 13).toInt ≤ 255 := h_M.at (bx_P0 hk1)
  refine Sf.i (fun c_3 => ?_) (fun c_3 => ?_)
  · have c_3 := i_eq.mp c_3
    refine Sf.c (sX1_lastCode hk0 h_M) (fun r3 p_4 => ?_)
    obtain ⟨p_4a, p_4b⟩ := p_4
    refine Sf.c (sX1_lastCode hk1 h_M) (fun r6 p_5 => ?_)
    obtain ⟨p_5a, p_5b⟩ := p_5
    refine Sf.i (fun c_6 => ?_) (fun c_6 => ?_)
    · have c_6 := i_eq.mp c_6
      refine Sf.c (sX1_lastGauge hk0 h_M) (fun r10 p_7 => ?_)
      obtain ⟨p_7a, p_7b⟩ := p_7
      refine Sf.c (sX1_lastGauge hk1 h_M) (fun r13 p_8 => ?_)
      obtain ⟨p_8a, p_8b⟩ := p_8
      refine Sf.i (fun c_9 => ?_) (fun c_9 => ?_)
      · have c_9 := i_eq.mp c_9
        have b_10 : (0 : Int) ≤ (rd M k0 7).toInt ∧ (rd M k0 7).toInt ≤ 99 := h_M.at (bx_P0 hk0)
        have b_11 : (0 : Int) ≤ (rd M k1 7).toInt ∧ (rd M k1 7).toInt ≤ 99 := h_M.at (bx_P0 hk1)
        refine Sf.i (fun c_12 => ?_) (fun c_12 => ?_)
        · have c_12 := i_eq.mp c_12
          have b_13 : (0 : Int) ≤ (rd M k0 8).toInt ∧ (rd M k0 8).toInt ≤ 99 := h_M.at (bx_P0 hk0)
          have b_14 : (0 : Int) ≤ (rd M k1 8).toInt ∧ (rd M k1 8).toInt ≤ 99 := h_M.at (bx_P0 hk1)
          refine Sf.i (fun c_15 => ?_) (fun c_15 => ?_)
          · have c_15 := i_eq.mp c_15
            have b_16 : (0 : Int) ≤ (rd M k0 9).toInt ∧ (rd M k0 9).toInt ≤ 99 := h_M.at (bx_P0 hk0)
            have b_17 : (0 : Int) ≤ (rd M k1 9).toInt ∧ (rd M k1 9).toInt ≤ 99 := h_M.at (bx_P0 hk1)
            refine Sf.i (fun c_18 => ?_) (fun c_18 => ?_)
            · have c_18 := i_eq.mp c_18
              have n_19 : ((1 : Int32)).toInt = 1 := rfl
              have z_20 : (0 : Int) ≤ ((1 : Int32)).toInt ∧ ((1 : Int32)).toInt ≤ 1 := ⟨by omega, by omega⟩
              exact Sf.ok z_20
            · have c_18 := i_ne c_18
              have n_21 : ((0 : Int32)).toInt = 0 := rfl
              have z_22 : (0 : Int) ≤ ((0 : Int32)).toInt ∧ ((0 : Int32)).toInt ≤ 1 := ⟨by omega, by omega⟩
              exact Sf.ok z_22
          · have c_15 := i_ne c_15
            have n_23 : ((0 : Int32)).toInt = 0 := rfl
            have z_24 : (0 : Int) ≤ ((0 : Int32)).toInt ∧ ((0 : Int32)).toInt ≤ 1 := ⟨by omega, by omega⟩
            exact Sf.ok z_24
        · have c_12 := i_ne c_12
          have n_25 : ((0 : Int32)).toInt = 0 := rfl
          have z_26 : (0 : Int) ≤ ((0 : Int32)).toInt ∧ ((0 : Int32)).toInt ≤ 1 := ⟨by omega, by omega⟩
          exact Sf.ok z_26
      · have c_9 := i_ne c_9
        have n_27 : ((0 : Int32)).toInt = 0 := rfl
        have z_28 : (0 : Int) ≤ ((0 : Int32)).toInt ∧ ((0 : Int32)).toInt ≤ 1 := ⟨by omega, by omega⟩
        exact Sf.ok z_28
    · have c_6 := i_ne c_6
      have n_29 : ((0 : Int32)).toInt = 0 := rfl
      have z_30 : (0 : Int) ≤ ((0 : Int32)).toInt ∧ ((0 : Int32)).toInt ≤ 1 := ⟨by omega, by omega⟩
      exact Sf.ok z_30
  · have c_3 := i_ne c_3
    have n_31 : ((0 : Int32)).toInt = 0 := rfl
    have z_32 : (0 : Int) ≤ ((0 : Int32)).toInt ∧ ((0 : Int32)).toInt ≤ 1 := ⟨by omega, by omega⟩
    exact Sf.ok z_32
set_option maxHeartbeats 2000000 in
theorem sX0_forgetAll {f : Bool} {M : Mem} (h_M : OKb f M) : Sf (mX0_forgetAll 21 M) (pM f) := by
  unfold mX0_forgetAll
  have n_1 : ((0 : Int32)).toInt = 0 := rfl
  have z_2 : (0 : Int) ≤ ((0 : Int32)).toInt ∧ ((0 : Int32)).toInt ≤ 10 := ⟨by omega, by omega⟩
  refine Sf.b (fun M1 e_M1 => ?_)
  have h_M1 : OKb f M1 := by rw [e_M1]; exact h_M.put rfl z_2
  exact Sf.ok h_M1
set_option maxHeartbeats 2000000 in
theorem sX0_remember_b32 {f : Bool} {k1 : Nat} {M : Mem} (hk1 : isP k1) (h_M : OKb f M) (he0 : (0 : Int) ≤ (rd M 21 2).toInt ∧ (rd M 21 2).toInt ≤ 9) : Sf (mX0_remember_b32 21 k1 M) (pM f) := by
  unfold mX0_remember_b32
  have b_1 : (0 : Int) ≤ (rd M 21 1).toInt ∧ (rd M 21 1).toInt ≤ 9 := h_M.at rfl
  have b_2 : (0 : Int) ≤ (rd M 21 2).toInt ∧ (rd M 21 2).toInt ≤ 10 := h_M.at rfl
  have a_3 : (((rd M 21 1) + (rd M 21 2))).toInt = ((rd M 21 1)).toInt + ((rd M 21 2)).toInt := i_add (by omega) (by omega)
  have n_4 : ((10 : Int32)).toInt = 10 := rfl
  have a_5 : ((((rd M 21 1) + (rd M 21 2)) / (10 : Int32))).toInt = (((rd M 21 1) + (rd M 21 2))).toInt / 10 := (i_div (by omega) (by omega)).trans (by rw [show ((10 : Int32)).toInt = 10 from rfl])
  have a_6 : (((((rd M 21 1) + (rd M 21 2)) / (10 : Int32)) * (10 : Int32))).toInt = ((((rd M 21 1) + (rd M 21 2)) / (10 : Int32))).toInt * 10 := i_mulr (by omega) (by omega) (by omega)
  have a_7 : ((((rd M 21 1) + (rd M 21 2)) - ((((rd M 21 1) + (rd M 21 2)) / (10 : Int32)) * (10 : Int32)))).toInt = (((rd M 21 1) + (rd M 21 2))).toInt - (((((rd M 21 1) + (rd M 21 2)) / (10 : Int32)) * (10 : Int32))).toInt := i_sub (by omega) (by omega)
  refine Sf.k (ok_in (by omega) (by omega)) ?_
  refine Sf.m (sX1_copyFrom (isP_h (by first | omega | (rw [i_clamp]; omega))) hk1 h_M) (fun M5 _ h_M5 => ?_)
  have h_M5 : OKb f M5 := h_M5
  have b_9 : (0 : Int) ≤ (rd M5 21 2).toInt ∧ (rd M5 21 2).toInt ≤ 10 := h_M5.at rfl
  have n_10 : ((1 : Int32)).toInt = 1 := rfl
  have a_11 : (((rd M5 21 2) + (1 : Int32))).toInt = ((rd M5 21 2)).toInt + ((1 : Int32)).toInt := i_add (by omega) (by omega)
  have z_12 : (0 : Int) ≤ (((rd M5 21 2) + (1 : Int32))).toInt ∧ (((rd M5 21 2) + (1 : Int32))).toInt ≤ 10 := ⟨by omega, by omega⟩
  refine Sf.b (fun M6 e_M6 => ?_)
  have h_M6 : OKb f M6 := by rw [e_M6]; exact h_M5.put rfl z_12
  exact Sf.ok h_M6
set_option maxHeartbeats 2000000 in
theorem sX0_remember {f : Bool} {k1 : Nat} {M : Mem} (hk1 : isP k1) (h_M : OKb f M) : Sf (mX0_remember 21 k1 M) (pM f) := by
  unfold mX0_remember
  have b_1 : (0 : Int) ≤ (rd M 21 2).toInt ∧ (rd M 21 2).toInt ≤ 10 := h_M.at rfl
  have n_2 : ((10 : Int32)).toInt = 10 := rfl
  refine Sf.i (fun c_3 => ?_) (fun c_3 => ?_)
  · have c_3 := i_eq.mp c_3
    have b_4 : (0 : Int) ≤ (rd M 21 1).toInt ∧ (rd M 21 1).toInt ≤ 9 := h_M.at rfl
    have n_5 : ((1 : Int32)).toInt = 1 := rfl
    have a_6 : (((rd M 21 1) + (1 : Int32))).toInt = ((rd M 21 1)).toInt + ((1 : Int32)).toInt := i_add (by omega) (by omega)
    have a_7 : ((((rd M 21 1) + (1 : Int32)) / (10 : Int32))).toInt = (((rd M 21 1) + (1 : Int32))).toInt / 10 := (i_div (by omega) (by omega)).trans (by rw [show ((10 : Int32)).toInt = 10 from rfl])
    have a_8 : (((((rd M 21 1) + (1 : Int32)) / (10 : Int32)) * (10 : Int32))).toInt = ((((rd M 21 1) + (1 : Int32)) / (10 : Int32))).toInt * 10 := i_mulr (by omega) (by omega) (by omega)
    have a_9 : ((((rd M 21 1) + (1 : Int32)) - ((((rd M 21 1) + (1 : Int32)) / (10 : Int32)) * (10 : Int32)))).toInt = (((rd M 21 1) + (1 : Int32))).toInt - (((((rd M 21 1) + (1 : Int32)) / (10 : Int32)) * (10 : Int32))).toInt := i_sub (by omega) (by omega)
    have z_10 : (0 : Int) ≤ ((((rd M 21 1) + (1 : Int32)) - ((((rd M 21 1) + (1 : Int32)) / (10 : Int32)) * (10 : Int32)))).toInt ∧ ((((rd M 21 1) + (1 : Int32)) - ((((rd M 21 1) + (1 : Int32)) / (10 : Int32)) * (10 : Int32)))).toInt ≤ 9 := ⟨by omega, by omega⟩
    refine Sf.b (fun M8 e_M8 => ?_)
    have h_M8 : OKb f M8 := by rw [e_M8]; exact h_M.put rfl z_10
    have w_11 : (rd M8 21 2).toInt = (rd M 21 2).toInt := by rw [e_M8, rd_wj (by decide)]
    have a_12 : (((rd M8 21 2) - (1 : Int32))).toInt = ((rd M8 21 2)).toInt - ((1 : Int32)).toInt := i_sub (by omega) (by omega)
    have z_13 : (0 : Int) ≤ (((rd M8 21 2) - (1 : Int32))).toInt ∧ (((rd M8 21 2) - (1 : Int32))).toInt ≤ 10 := ⟨by omega, by omega⟩
    refine Sf.b (fun M10 e_M10 => ?_)
    have h_M10 : OKb f M10 := by rw [e_M10]; exact h_M8.put rfl z_13
    have w_14 : (rd M10 21 2).toInt = (((rd M8 k0 2) - (1 : Int32))).toInt := by rw [e_M10, rd_we]
    exact (sX0_remember_b32 hk1 h_M10 ⟨by omega, by omega⟩)
  · have c_3 := i_ne c_3
    exact (sX0_remember_b32 hk1 h_M ⟨by omega, by omega⟩)
set_option maxHeartbeats 2000000 in
theorem sX0_takeBack {f : Bool} {k1 : Nat} {M : Mem} (hk1 : isP k1) (h_M : OKb f M) : Sf (mX0_takeBack 21 k1 M) (pMI f (0) (1)) := by
  unfold mX0_takeBack
  have b_1 : (0 : Int) ≤ (rd M 21 2).toInt ∧ (rd M 21 2).toInt ≤ 10 := h_M.at rfl
  have n_2 : ((0 : Int32)).toInt = 0 := rfl
  refine Sf.i (fun c_3 => ?_) (fun c_3 => ?_)
  · have c_3 := i_eq.mp c_3
    have n_4 : ((0 : Int32)).toInt = 0 := rfl
    have z_5 : (0 : Int) ≤ ((0 : Int32)).toInt ∧ ((0 : Int32)).toInt ≤ 1 := ⟨by omega, by omega⟩
    exact Sf.ok ⟨h_M, z_5⟩
  · have c_3 := i_ne c_3
    have n_6 : ((1 : Int32)).toInt = 1 := rfl
    have a_7 : (((rd M 21 2) - (1 : Int32))).toInt = ((rd M 21 2)).toInt - ((1 : Int32)).toInt := i_sub (by omega) (by omega)
    have z_8 : (0 : Int) ≤ (((rd M 21 2) - (1 : Int32))).toInt ∧ (((rd M 21 2) - (1 : Int32))).toInt ≤ 10 := ⟨by omega, by omega⟩
    refine Sf.b (fun M2 e_M2 => ?_)
    have h_M2 : OKb f M2 := by rw [e_M2]; exact h_M.put rfl z_8
    have w_9 : (rd M2 21 1).toInt = (rd M 21 1).toInt := by rw [e_M2, rd_wj (by decide)]
    have b_10 : (0 : Int) ≤ (rd M 21 1).toInt ∧ (rd M 21 1).toInt ≤ 9 := h_M.at rfl
    have w_11 : (rd M2 21 2).toInt = (((rd M k0 2) - (1 : Int32))).toInt := by rw [e_M2, rd_we]
    have a_12 : (((rd M2 21 1) + (rd M2 21 2))).toInt = ((rd M2 21 1)).toInt + ((rd M2 21 2)).toInt := i_add (by omega) (by omega)
    have n_13 : ((10 : Int32)).toInt = 10 := rfl
    have a_14 : ((((rd M2 21 1) + (rd M2 21 2)) / (10 : Int32))).toInt = (((rd M2 21 1) + (rd M2 21 2))).toInt / 10 := (i_div (by omega) (by omega)).trans (by rw [show ((10 : Int32)).toInt = 10 from rfl])
    have a_15 : (((((rd M2 21 1) + (rd M2 21 2)) / (10 : Int32)) * (10 : Int32))).toInt = ((((rd M2 21 1) + (rd M2 21 2)) / (10 : Int32))).toInt * 10 := i_mulr (by omega) (by omega) (by omega)
    have a_16 : ((((rd M2 21 1) + (rd M2 21 2)) - ((((rd M2 21 1) + (rd M2 21 2)) / (10 : Int32)) * (10 : Int32)))).toInt = (((rd M2 21 1) + (rd M2 21 2))).toInt - (((((rd M2 21 1) + (rd M2 21 2)) / (10 : Int32)) * (10 : Int32))).toInt := i_sub (by omega) (by omega)
    refine Sf.k (ok_in (by omega) (by omega)) ?_
    refine Sf.m (sX1_copyFrom hk1 (isP_h (by first | omega | (rw [i_clamp]; omega))) h_M2) (fun M7 _ h_M7 => ?_)
    have h_M7 : OKb f M7 := h_M7
    have z_18 : (0 : Int) ≤ ((1 : Int32)).toInt ∧ ((1 : Int32)).toInt ≤ 1 := ⟨by omega, by omega⟩
    exact Sf.ok ⟨h_M7, z_18⟩
