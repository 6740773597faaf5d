set_option maxHeartbeats 2000000 in
theorem sX1_putSheet {f : Bx} {k0 : Nat} {x1 : Int32} {x2 : Int32} {x3 : Int32} {M : Mem} (hk0 : isP k0) (h_M : OKb f M) : Sf (mX1_putSheet k0 x1 x2 x3 M) (fun q => pM f q ∧ ∀ j, rd q.1 21 j = rd M 21 j) := by
  unfold mX1_putSheet
  have g_M : ∀ j, rd M 21 j = rd M 21 j := fun _ => rfl
  refine Sf.b (fun M1 e_M1 => ?_)
  have h_M1 : OKb f M1 := by rw [e_M1]; exact h_M.put (bx_P0 hk0) (i_rng _)
  have g_M1 : ∀ j, rd M1 21 j = rd M 21 j := fun j => (show rd M1 21 j = rd M 21 j by rw [e_M1]; exact rd_wk (isP_21z hk0)).trans (g_M j)
  refine Sf.b (fun M3 e_M3 => ?_)
  have h_M3 : OKb f M3 := by rw [e_M3]; exact h_M1.put (bx_P0 hk0) (i_rng _)
  have g_M3 : ∀ j, rd M3 21 j = rd M 21 j := fun j => (show rd M3 21 j = rd M1 21 j by rw [e_M3]; exact rd_wk (isP_21z hk0)).trans (g_M1 j)
  refine Sf.b (fun M5 e_M5 => ?_)
  have h_M5 : OKb f M5 := by rw [e_M5]; exact h_M3.put (bx_P0 hk0) (i_rng _)
  have g_M5 : ∀ j, rd M5 21 j = rd M 21 j := fun j => (show rd M5 21 j = rd M3 21 j by rw [e_M5]; exact rd_wk (isP_21z hk0)).trans (g_M3 j)
  exact Sf.ok ⟨h_M5, g_M5⟩
set_option maxHeartbeats 2000000 in
theorem sX1_putTool {f : Bx} {k0 : Nat} {x1 : Int32} {x2 : Int32} {x3 : Int32} {M : Mem} (hk0 : isP k0) (h_M : OKb f M) (hx1 : (0 : Int) ≤ (x1).toInt ∧ (x1).toInt ≤ 4) : Sf (mX1_putTool k0 x1 x2 x3 M) (pM f) := by
  unfold mX1_putTool
  have n_1 : ((0 : Int32)).toInt = 0 := rfl
  refine Sf.i (fun c_2 => ?_) (fun c_2 => ?_)
  · have c_2 := i_lt.mp c_2
    exfalso; omega
  · have c_2 := i_nlt c_2
    have n_3 : ((5 : Int32)).toInt = 5 := rfl
    refine Sf.i (fun c_4 => ?_) (fun c_4 => ?_)
    · have c_4 := i_le.mp c_4
      exfalso; omega
    · have c_4 := i_nle c_4
      have n_5 : ((2 : Int32)).toInt = 2 := rfl
      try have a_6 : (((2 : Int32) * x1)).toInt = 2 * (x1).toInt := i_mulc (by omega) (by omega) (by omega)
      refine Sf.k (ok_in (by omega) (by omega)) ?_
      refine Sf.b (fun M5 e_M5 => ?_)
      have h_M5 : OKb f M5 := by rw [e_M5]; exact h_M.put (bx_P (c := 2) hk0 (by omega)) (i_rng _)
      have n_7 : ((1 : Int32)).toInt = 1 := rfl
      try have a_8 : ((((2 : Int32) * x1) + (1 : Int32))).toInt = (((2 : Int32) * x1)).toInt + ((1 : Int32)).toInt := i_add (by omega) (by omega)
      refine Sf.k (ok_in (by omega) (by omega)) ?_
      refine Sf.b (fun M8 e_M8 => ?_)
      have h_M8 : OKb f M8 := by rw [e_M8]; exact h_M5.put (bx_P (c := 2) hk0 (by omega)) (i_rng _)
      exact Sf.ok h_M8
set_option maxHeartbeats 2000000 in
theorem sX1_putCosts {f : Bx} {k0 : Nat} {x1 : Int32} {x2 : Int32} {x3 : Int32} {M : Mem} (hk0 : isP k0) (h_M : OKb f M) (hx1 : (0 : Int) ≤ (x1).toInt ∧ (x1).toInt ≤ 99) (hx2 : (0 : Int) ≤ (x2).toInt ∧ (x2).toInt ≤ 99) (hx3 : (0 : Int) ≤ (x3).toInt ∧ (x3).toInt ≤ 99) : Sf (mX1_putCosts k0 x1 x2 x3 M) (fun q => pM f q ∧ ∀ j, rd q.1 21 j = rd M 21 j) := by
  unfold mX1_putCosts
  have g_M : ∀ j, rd M 21 j = rd M 21 j := fun _ => rfl
  have z_1 : (0 : Int) ≤ (x1).toInt ∧ (x1).toInt ≤ 99 := ⟨by omega, by omega⟩
  refine Sf.b (fun M1 e_M1 => ?_)
  have h_M1 : OKb f M1 := by rw [e_M1]; exact h_M.put (bx_P0 hk0) z_1
  have g_M1 : ∀ j, rd M1 21 j = rd M 21 j := fun j => (show rd M1 21 j = rd M 21 j by rw [e_M1]; exact rd_wk (isP_21z hk0)).trans (g_M j)
  have z_2 : (0 : Int) ≤ (x2).toInt ∧ (x2).toInt ≤ 99 := ⟨by omega, by omega⟩
  refine Sf.b (fun M3 e_M3 => ?_)
  have h_M3 : OKb f M3 := by rw [e_M3]; exact h_M1.put (bx_P0 hk0) z_2
  have g_M3 : ∀ j, rd M3 21 j = rd M 21 j := fun j => (show rd M3 21 j = rd M1 21 j by rw [e_M3]; exact rd_wk (isP_21z hk0)).trans (g_M1 j)
  have z_3 : (0 : Int) ≤ (x3).toInt ∧ (x3).toInt ≤ 99 := ⟨by omega, by omega⟩
  refine Sf.b (fun M5 e_M5 => ?_)
  have h_M5 : OKb f M5 := by rw [e_M5]; exact h_M3.put (bx_P0 hk0) z_3
  have g_M5 : ∀ j, rd M5 21 j = rd M 21 j := fun j => (show rd M5 21 j = rd M3 21 j by rw [e_M5]; exact rd_wk (isP_21z hk0)).trans (g_M3 j)
  exact Sf.ok ⟨h_M5, g_M5⟩
set_option maxHeartbeats 2000000 in
theorem sX1_dropSteps {f : Bx} {k0 : Nat} {M : Mem} (hk0 : isP k0) (h_M : OKb f M) : Sf (mX1_dropSteps k0 M) (pM f) := by
  unfold mX1_dropSteps
  have n_1 : ((0 : Int32)).toInt = 0 := rfl
  have z_2 : (0 : Int) ≤ ((0 : Int32)).toInt ∧ ((0 : Int32)).toInt ≤ 255 := ⟨by omega, by omega⟩
  refine Sf.b (fun M1 e_M1 => ?_)
  have h_M1 : OKb f M1 := by rw [e_M1]; exact h_M.put (bx_P0 hk0) z_2
  have z_3 : (0 : Int) ≤ ((0 : Int32)).toInt ∧ ((0 : Int32)).toInt ≤ 8 := ⟨by omega, by omega⟩
  refine Sf.b (fun M3 e_M3 => ?_)
  have h_M3 : OKb f M3 := by rw [e_M3]; exact h_M1.put (bx_P0 hk0) z_3
  exact Sf.ok h_M3
set_option maxHeartbeats 2000000 in
theorem sX1_clear {f : Bx} {k0 : Nat} {M : Mem} (hk0 : isP k0) (h_M : OKb f M) : Sf (mX1_clear k0 M) (pM f) := by
  unfold mX1_clear
  have n_1 : ((0 : Int32)).toInt = 0 := rfl
  have z_2 : (0 : Int) ≤ ((0 : Int32)).toInt ∧ ((0 : Int32)).toInt ≤ 9 := ⟨by omega, by omega⟩
  refine Sf.b (fun M1 e_M1 => ?_)
  have h_M1 : OKb f M1 := by rw [e_M1]; exact h_M.put (bx_P0 hk0) z_2
  have z_3 : (0 : Int) ≤ ((0 : Int32)).toInt ∧ ((0 : Int32)).toInt ≤ 255 := ⟨by omega, by omega⟩
  refine Sf.b (fun M3 e_M3 => ?_)
  have h_M3 : OKb f M3 := by rw [e_M3]; exact h_M1.put (bx_P0 hk0) z_3
  have z_4 : (0 : Int) ≤ ((0 : Int32)).toInt ∧ ((0 : Int32)).toInt ≤ 8 := ⟨by omega, by omega⟩
  refine Sf.b (fun M5 e_M5 => ?_)
  have h_M5 : OKb f M5 := by rw [e_M5]; exact h_M3.put (bx_P0 hk0) z_4
  refine Sf.m (sX1_putSheet hk0 h_M5) (fun M9 _ p_5 => ?_)
  have h_M9 : OKb f M9 := p_5.1
  have gq_M9 : ∀ j, rd M9 21 j = rd M5 21 j := p_5.2
  refine Sf.m (sX1_putTool hk0 h_M9 ⟨by omega, by omega⟩) (fun M12 _ h_M12 => ?_)
  have h_M12 : OKb f M12 := h_M12
  have n_7 : ((1 : Int32)).toInt = 1 := rfl
  refine Sf.m (sX1_putTool hk0 h_M12 ⟨by omega, by omega⟩) (fun M15 _ h_M15 => ?_)
  have h_M15 : OKb f M15 := h_M15
  have n_9 : ((2 : Int32)).toInt = 2 := rfl
  refine Sf.m (sX1_putTool hk0 h_M15 ⟨by omega, by omega⟩) (fun M18 _ h_M18 => ?_)
  have h_M18 : OKb f M18 := h_M18
  have n_11 : ((3 : Int32)).toInt = 3 := rfl
  refine Sf.m (sX1_putTool hk0 h_M18 ⟨by omega, by omega⟩) (fun M21 _ h_M21 => ?_)
  have h_M21 : OKb f M21 := h_M21
  have n_13 : ((4 : Int32)).toInt = 4 := rfl
  refine Sf.m (sX1_putTool hk0 h_M21 ⟨by omega, by omega⟩) (fun M24 _ h_M24 => ?_)
  have h_M24 : OKb f M24 := h_M24
  refine Sf.m (sX1_putCosts hk0 h_M24 ⟨by omega, by omega⟩ ⟨by omega, by omega⟩ ⟨by omega, by omega⟩) (fun M27 _ p_15 => ?_)
  have h_M27 : OKb f M27 := p_15.1
  have gq_M27 : ∀ j, rd M27 21 j = rd M24 21 j := p_15.2
  refine Sf.m (sX1_dropSteps hk0 h_M27) (fun M30 _ h_M30 => ?_)
  have h_M30 : OKb f M30 := h_M30
  exact Sf.ok h_M30
set_option maxHeartbeats 2000000 in
theorem sX1_copyFrom {f : Bx} {k0 : Nat} {k1 : Nat} {M : Mem} (hk0 : isP k0) (hk1 : isP k1) (h_M : OKb f M) : Sf (mX1_copyFrom k0 k1 M) (fun q => pM f q ∧ ∀ j, rd q.1 21 j = rd M 21 j) := by
  unfold mX1_copyFrom
  have g_M : ∀ j, rd M 21 j = rd M 21 j := fun _ => rfl
  have b_1 : (0 : Int) ≤ (rd M k1 0).toInt ∧ (rd M k1 0).toInt ≤ 9 := h_M.at (bx_P0 hk1)
  have z_2 : (0 : Int) ≤ ((rd M k1 0)).toInt ∧ ((rd M k1 0)).toInt ≤ 9 := ⟨by omega, by omega⟩
  refine Sf.b (fun M1 e_M1 => ?_)
  have h_M1 : OKb f M1 := by rw [e_M1]; exact h_M.put (bx_P0 hk0) z_2
  have g_M1 : ∀ j, rd M1 21 j = rd M 21 j := fun j => (show rd M1 21 j = rd M 21 j by rw [e_M1]; exact rd_wk (isP_21z hk0)).trans (g_M j)
  refine Sf.b (fun M3 e_M3 => ?_)
  have h_M3 : OKb f M3 := by rw [e_M3]; exact h_M1.cp (fun j => (bx_P (c := 1) hk1 (by omega)).trans (bx_P (c := 1) hk0 (by omega)).symm)
  have g_M3 : ∀ j, rd M3 21 j = rd M 21 j := fun j => by rw [e_M3]; exact (congrFun (cpy_o 21 (isP_21 hk0 (c := 1) (by omega))).1 j).trans (g_M1 j)
  have b_3 : (0 : Int) ≤ (rd M3 k1 2).toInt ∧ (rd M3 k1 2).toInt ≤ 255 := h_M3.at (bx_P0 hk1)
  have z_4 : (0 : Int) ≤ ((rd M3 k1 2)).toInt ∧ ((rd M3 k1 2)).toInt ≤ 255 := ⟨by omega, by omega⟩
  refine Sf.b (fun M5 e_M5 => ?_)
  have h_M5 : OKb f M5 := by rw [e_M5]; exact h_M3.put (bx_P0 hk0) z_4
  have g_M5 : ∀ j, rd M5 21 j = rd M 21 j := fun j => (show rd M5 21 j = rd M3 21 j by rw [e_M5]; exact rd_wk (isP_21z hk0)).trans (g_M3 j)
  refine Sf.m (sX1_putSheet hk0 h_M5) (fun M9 _ p_5 => ?_)
  have h_M9 : OKb f M9 := p_5.1
  have gq_M9 : ∀ j, rd M9 21 j = rd M5 21 j := p_5.2
  have g_M9 : ∀ j, rd M9 21 j = rd M 21 j := fun j => (gq_M9 j).trans (g_M5 j)
  refine Sf.b (fun M10 e_M10 => ?_)
  have h_M10 : OKb f M10 := by rw [e_M10]; exact h_M9.cp (fun j => (bx_P (c := 2) hk1 (by omega)).trans (bx_P (c := 2) hk0 (by omega)).symm)
  have g_M10 : ∀ j, rd M10 21 j = rd M 21 j := fun j => by rw [e_M10]; exact (congrFun (cpy_o 21 (isP_21 hk0 (c := 2) (by omega))).1 j).trans (g_M9 j)
  have b_6 : (0 : Int) ≤ (rd M10 k1 7).toInt ∧ (rd M10 k1 7).toInt ≤ 99 := h_M10.at (bx_P0 hk1)
  have b_7 : (0 : Int) ≤ (rd M10 k1 8).toInt ∧ (rd M10 k1 8).toInt ≤ 99 := h_M10.at (bx_P0 hk1)
  have b_8 : (0 : Int) ≤ (rd M10 k1 9).toInt ∧ (rd M10 k1 9).toInt ≤ 99 := h_M10.at (bx_P0 hk1)
  refine Sf.m (sX1_putCosts hk0 h_M10 ⟨by omega, by omega⟩ ⟨by omega, by omega⟩ ⟨by omega, by omega⟩) (fun M14 _ p_9 => ?_)
  have h_M14 : OKb f M14 := p_9.1
  have gq_M14 : ∀ j, rd M14 21 j = rd M10 21 j := p_9.2
  have g_M14 : ∀ j, rd M14 21 j = rd M 21 j := fun j => (gq_M14 j).trans (g_M10 j)
  have b_10 : (0 : Int) ≤ (rd M14 k1 10).toInt ∧ (rd M14 k1 10).toInt ≤ 8 := h_M14.at (bx_P0 hk1)
  have z_11 : (0 : Int) ≤ ((rd M14 k1 10)).toInt ∧ ((rd M14 k1 10)).toInt ≤ 8 := ⟨by omega, by omega⟩
  refine Sf.b (fun M15 e_M15 => ?_)
  have h_M15 : OKb f M15 := by rw [e_M15]; exact h_M14.put (bx_P0 hk0) z_11
  have g_M15 : ∀ j, rd M15 21 j = rd M 21 j := fun j => (show rd M15 21 j = rd M14 21 j by rw [e_M15]; exact rd_wk (isP_21z hk0)).trans (g_M14 j)
  refine Sf.b (fun M17 e_M17 => ?_)
  have h_M17 : OKb f M17 := by rw [e_M17]; exact h_M15.cp (fun j => (bx_P (c := 3) hk1 (by omega)).trans (bx_P (c := 3) hk0 (by omega)).symm)
  have g_M17 : ∀ j, rd M17 21 j = rd M 21 j := fun j => by rw [e_M17]; exact (congrFun (cpy_o 21 (isP_21 hk0 (c := 3) (by omega))).1 j).trans (g_M15 j)
  refine Sf.b (fun M19 e_M19 => ?_)
  have h_M19 : OKb f M19 := by rw [e_M19]; exact h_M17.cp (fun j => (bx_P (c := 4) hk1 (by omega)).trans (bx_P (c := 4) hk0 (by omega)).symm)
  have g_M19 : ∀ j, rd M19 21 j = rd M 21 j := fun j => by rw [e_M19]; exact (congrFun (cpy_o 21 (isP_21 hk0 (c := 4) (by omega))).1 j).trans (g_M17 j)
  have b_12 : (0 : Int) ≤ (rd M19 k1 13).toInt ∧ (rd M19 k1 13).toInt ≤ 255 := h_M19.at (bx_P0 hk1)
  have z_13 : (0 : Int) ≤ ((rd M19 k1 13)).toInt ∧ ((rd M19 k1 13)).toInt ≤ 255 := ⟨by omega, by omega⟩
  refine Sf.b (fun M21 e_M21 => ?_)
  have h_M21 : OKb f M21 := by rw [e_M21]; exact h_M19.put (bx_P0 hk0) z_13
  have g_M21 : ∀ j, rd M21 21 j = rd M 21 j := fun j => (show rd M21 21 j = rd M19 21 j by rw [e_M21]; exact rd_wk (isP_21z hk0)).trans (g_M19 j)
  have b_15 : (0 : Int) ≤ (rd M21 k1 14).toInt ∧ (rd M21 k1 14).toInt ≤ 8 := h_M21.at (bx_P0 hk1)
  have z_16 : (0 : Int) ≤ ((rd M21 k1 14)).toInt ∧ ((rd M21 k1 14)).toInt ≤ 8 := ⟨by omega, by omega⟩
  refine Sf.b (fun M23 e_M23 => ?_)
  have h_M23 : OKb f M23 := by rw [e_M23]; exact h_M21.put (bx_P0 hk0) z_16
  have g_M23 : ∀ j, rd M23 21 j = rd M 21 j := fun j => (show rd M23 21 j = rd M21 21 j by rw [e_M23]; exact rd_wk (isP_21z hk0)).trans (g_M21 j)
  refine Sf.b (fun M25 e_M25 => ?_)
  have h_M25 : OKb f M25 := by rw [e_M25]; exact h_M23.cp (fun j => (bx_P (c := 5) hk1 (by omega)).trans (bx_P (c := 5) hk0 (by omega)).symm)
  have g_M25 : ∀ j, rd M25 21 j = rd M 21 j := fun j => by rw [e_M25]; exact (congrFun (cpy_o 21 (isP_21 hk0 (c := 5) (by omega))).1 j).trans (g_M23 j)
  refine Sf.b (fun M27 e_M27 => ?_)
  have h_M27 : OKb f M27 := by rw [e_M27]; exact h_M25.cp (fun j => (bx_P (c := 6) hk1 (by omega)).trans (bx_P (c := 6) hk0 (by omega)).symm)
  have g_M27 : ∀ j, rd M27 21 j = rd M 21 j := fun j => by rw [e_M27]; exact (congrFun (cpy_o 21 (isP_21 hk0 (c := 6) (by omega))).1 j).trans (g_M25 j)
  refine Sf.b (fun M29 e_M29 => ?_)
  have h_M29 : OKb f M29 := by rw [e_M29]; exact h_M27.cp (fun j => (bx_P (c := 7) hk1 (by omega)).trans (bx_P (c := 7) hk0 (by omega)).symm)
  have g_M29 : ∀ j, rd M29 21 j = rd M 21 j := fun j => by rw [e_M29]; exact (congrFun (cpy_o 21 (isP_21 hk0 (c := 7) (by omega))).1 j).trans (g_M27 j)
  exact Sf.ok ⟨h_M29, g_M29⟩
set_option maxHeartbeats 2000000 in
theorem sX1_addBack {f : Bx} {k0 : Nat} {x1 : Int32} {x2 : Int32} {M : Mem} (hk0 : isP k0) (h_M : OKb f M) : Sf (mX1_addBack k0 x1 x2 M) (pM f) := by
  unfold mX1_addBack
  have n_1 : ((8 : Int32)).toInt = 8 := rfl
  have b_2 : (0 : Int) ≤ (rd M k0 10).toInt ∧ (rd M k0 10).toInt ≤ 8 := h_M.at (bx_P0 hk0)
  refine Sf.i (fun c_3 => ?_) (fun c_3 => ?_)
  · have c_3 := i_le.mp c_3
    exact Sf.ok h_M
  · have c_3 := i_nle c_3
    refine Sf.k (ok_in (by omega) (by omega)) ?_
    refine Sf.b (fun M4 e_M4 => ?_)
    have h_M4 : OKb f M4 := by rw [e_M4]; exact h_M.put (bx_P (c := 3) hk0 (by omega)) (i_rng _)
    have w_4 : (rd M4 k0 10).toInt = (rd M k0 10).toInt := by rw [e_M4, rd_wk (by omega)]
    refine Sf.k (ok_in (by omega) (by omega)) ?_
    refine Sf.b (fun M7 e_M7 => ?_)
    have h_M7 : OKb f M7 := by rw [e_M7]; exact h_M4.put (bx_P (c := 4) hk0 (by omega)) (i_rng _)
    have w_5 : (rd M7 k0 10).toInt = (rd M4 k0 10).toInt := by rw [e_M7, rd_wk (by omega)]
    have w_6 : (rd M4 k0 10).toInt = (rd M k0 10).toInt := by rw [e_M4, rd_wk (by omega)]
    have n_7 : ((1 : Int32)).toInt = 1 := rfl
    try have a_8 : (((rd M7 k0 10) + (1 : Int32))).toInt = ((rd M7 k0 10)).toInt + ((1 : Int32)).toInt := i_add (by omega) (by omega)
    have z_9 : (0 : Int) ≤ (((rd M7 k0 10) + (1 : Int32))).toInt ∧ (((rd M7 k0 10) + (1 : Int32))).toInt ≤ 8 := ⟨by omega, by omega⟩
    refine Sf.b (fun M8 e_M8 => ?_)
    have h_M8 : OKb f M8 := by rw [e_M8]; exact h_M7.put (bx_P0 hk0) z_9
    exact Sf.ok h_M8
set_option maxHeartbeats 2000000 in
theorem sX1_lastBackRatio {f : Bx} {k0 : Nat} {M : Mem} (hk0 : isP k0) (h_M : OKb f M) : Sf (mX1_lastBackRatio k0 M) (pI (-2147483648) (2147483647)) := by
  unfold mX1_lastBackRatio
  have b_1 : (0 : Int) ≤ (rd M k0 10).toInt ∧ (rd M k0 10).toInt ≤ 8 := h_M.at (bx_P0 hk0)
  have n_2 : ((0 : Int32)).toInt = 0 := rfl
  refine Sf.i (fun c_3 => ?_) (fun c_3 => ?_)
  · have c_3 := i_le.mp c_3
    exact Sf.ok (i_rng _)
  · have c_3 := i_nle c_3
    have n_4 : ((1 : Int32)).toInt = 1 := rfl
    try have a_5 : (((rd M k0 10) - (1 : Int32))).toInt = ((rd M k0 10)).toInt - ((1 : Int32)).toInt := i_sub (by omega) (by omega)
    refine Sf.k (ok_in (by omega) (by omega)) ?_
    exact Sf.ok (i_rng _)
set_option maxHeartbeats 2000000 in
theorem sX1_addLeg_b47 {f : Bx} {k0 : Nat} {M : Mem} (hk0 : isP k0) (h_M : OKb f M) (he0 : (0 : Int) ≤ (rd M k0 0).toInt ∧ (rd M k0 0).toInt ≤ 8) : Sf (mX1_addLeg_b47 k0 M) (pM f) := by
  unfold mX1_addLeg_b47
  have b_1 : (0 : Int) ≤ (rd M k0 0).toInt ∧ (rd M k0 0).toInt ≤ 9 := h_M.at (bx_P0 hk0)
  have n_2 : ((1 : Int32)).toInt = 1 := rfl
  try have a_3 : (((rd M k0 0) + (1 : Int32))).toInt = ((rd M k0 0)).toInt + ((1 : Int32)).toInt := i_add (by omega) (by omega)
  have z_4 : (0 : Int) ≤ (((rd M k0 0) + (1 : Int32))).toInt ∧ (((rd M k0 0) + (1 : Int32))).toInt ≤ 9 := ⟨by omega, by omega⟩
  refine Sf.b (fun M6 e_M6 => ?_)
  have h_M6 : OKb f M6 := by rw [e_M6]; exact h_M.put (bx_P0 hk0) z_4
  exact Sf.ok h_M6
set_option maxHeartbeats 2000000 in
theorem sX1_addLeg {f : Bx} {k0 : Nat} {x1 : Int32} {x2 : Int32} {M : Mem} (hk0 : isP k0) (h_M : OKb f M) (hx1 : (0 : Int) ≤ (x1).toInt ∧ (x1).toInt ≤ 9999) (hx2 : (0 : Int) ≤ (x2).toInt ∧ (x2).toInt ≤ 1) : Sf (mX1_addLeg k0 x1 x2 M) (pM f) := by
  unfold mX1_addLeg
  have n_1 : ((9 : Int32)).toInt = 9 := rfl
  have b_2 : (0 : Int) ≤ (rd M k0 0).toInt ∧ (rd M k0 0).toInt ≤ 9 := h_M.at (bx_P0 hk0)
  refine Sf.i (fun c_3 => ?_) (fun c_3 => ?_)
  · have c_3 := i_le.mp c_3
    exact Sf.ok h_M
  · have c_3 := i_nle c_3
    refine Sf.k (ok_in (by omega) (by omega)) ?_
    have z_4 : (0 : Int) ≤ (x1).toInt ∧ (x1).toInt ≤ 9999 := ⟨by omega, by omega⟩
    refine Sf.b (fun M4 e_M4 => ?_)
    have h_M4 : OKb f M4 := by rw [e_M4]; exact h_M.put (bx_P (c := 1) hk0 (by omega)) z_4
    have w_5 : (rd M4 k0 0).toInt = (rd M k0 0).toInt := by rw [e_M4, rd_wk (by omega)]
    have n_6 : ((0 : Int32)).toInt = 0 := rfl
    refine Sf.i (fun c_7 => ?_) (fun c_7 => ?_)
    · have c_7 := i_le.mp c_7
      exact (sX1_addLeg_b47 hk0 h_M4 ⟨by omega, by omega⟩)
    · have c_7 := i_nle c_7
      refine Sf.i (fun c_8 => ?_) (fun c_8 => ?_)
      · have c_8 := i_eq.mp c_8
        exact (sX1_addLeg_b47 hk0 h_M4 ⟨by omega, by omega⟩)
      · have c_8 := i_ne c_8
        have w_9 : (rd M4 k0 2).toInt = (rd M k0 2).toInt := by rw [e_M4, rd_wk (by omega)]
        have b_10 : (0 : Int) ≤ (rd M k0 2).toInt ∧ (rd M k0 2).toInt ≤ 255 := h_M.at (bx_P0 hk0)
        have n_11 : ((1 : Int32)).toInt = 1 := rfl
        try have a_12 : (((rd M4 k0 0) - (1 : Int32))).toInt = ((rd M4 k0 0)).toInt - ((1 : Int32)).toInt := i_sub (by omega) (by omega)
        try have a_13 : 0 < (((1 : Int32) <<< (((rd M4 k0 0) - (1 : Int32)) &&& 31))).toInt ∧ (((1 : Int32) <<< (((rd M4 k0 0) - (1 : Int32)) &&& 31))).toInt ≤ 128 := i_shl 7 (by decide) ⟨by omega, by omega⟩
        try have a_14 : 0 ≤ (((rd M4 k0 2) ||| ((1 : Int32) <<< (((rd M4 k0 0) - (1 : Int32)) &&& 31)))).toInt ∧ (((rd M4 k0 2) ||| ((1 : Int32) <<< (((rd M4 k0 0) - (1 : Int32)) &&& 31)))).toInt < 256 := i_or 8 (by decide) ⟨by omega, by omega⟩ ⟨by omega, by omega⟩
        have z_15 : (0 : Int) ≤ (((rd M4 k0 2) ||| ((1 : Int32) <<< (((rd M4 k0 0) - (1 : Int32)) &&& 31)))).toInt ∧ (((rd M4 k0 2) ||| ((1 : Int32) <<< (((rd M4 k0 0) - (1 : Int32)) &&& 31)))).toInt ≤ 255 := ⟨by omega, by omega⟩
        refine Sf.b (fun M9 e_M9 => ?_)
        have h_M9 : OKb f M9 := by rw [e_M9]; exact h_M4.put (bx_P0 hk0) z_15
        have w_16 : (rd M9 k0 0).toInt = (rd M4 k0 0).toInt := by rw [e_M9, rd_wj (by decide)]
        have w_17 : (rd M4 k0 0).toInt = (rd M k0 0).toInt := by rw [e_M4, rd_wk (by omega)]
        exact (sX1_addLeg_b47 hk0 h_M9 ⟨by omega, by omega⟩)
set_option maxHeartbeats 2000000 in
theorem sX1_bendCount {f : Bx} {k0 : Nat} {M : Mem} (hk0 : isP k0) (h_M : OKb f M) : Sf (mX1_bendCount k0 M) (pI (0) (8)) := by
  unfold mX1_bendCount
  have b_1 : (0 : Int) ≤ (rd M k0 0).toInt ∧ (rd M k0 0).toInt ≤ 9 := h_M.at (bx_P0 hk0)
  have n_2 : ((0 : Int32)).toInt = 0 := rfl
  refine Sf.i (fun c_3 => ?_) (fun c_3 => ?_)
  · have c_3 := i_le.mp c_3
    have n_4 : ((0 : Int32)).toInt = 0 := rfl
    have z_5 : (0 : Int) ≤ ((0 : Int32)).toInt ∧ ((0 : Int32)).toInt ≤ 8 := ⟨by omega, by omega⟩
    exact Sf.ok z_5
  · have c_3 := i_nle c_3
    have n_6 : ((1 : Int32)).toInt = 1 := rfl
    try have a_7 : (((rd M k0 0) - (1 : Int32))).toInt = ((rd M k0 0)).toInt - ((1 : Int32)).toInt := i_sub (by omega) (by omega)
    have z_8 : (0 : Int) ≤ (((rd M k0 0) - (1 : Int32))).toInt ∧ (((rd M k0 0) - (1 : Int32))).toInt ≤ 8 := ⟨by omega, by omega⟩
    exact Sf.ok z_8
set_option maxHeartbeats 2000000 in
theorem sX1_allBends {f : Bx} {k0 : Nat} {M : Mem} (hk0 : isP k0) (h_M : OKb f M) : Sf (mX1_allBends k0 M) (pI (0) (255)) := by
  unfold mX1_allBends
  refine Sf.c (sX1_bendCount hk0 h_M) (fun r2 p_1 => ?_)
  obtain ⟨p_1a, p_1b⟩ := p_1
  try have a_2 : 0 < (((1 : Int32) <<< (r2 &&& 31))).toInt ∧ (((1 : Int32) <<< (r2 &&& 31))).toInt ≤ 256 := i_shl 8 (by decide) ⟨by omega, by omega⟩
  have n_3 : ((1 : Int32)).toInt = 1 := rfl
  try have a_4 : ((((1 : Int32) <<< (r2 &&& 31)) - (1 : Int32))).toInt = (((1 : Int32) <<< (r2 &&& 31))).toInt - ((1 : Int32)).toInt := i_sub (by omega) (by omega)
  have z_5 : (0 : Int) ≤ ((((1 : Int32) <<< (r2 &&& 31)) - (1 : Int32))).toInt ∧ ((((1 : Int32) <<< (r2 &&& 31)) - (1 : Int32))).toInt ≤ 255 := ⟨by omega, by omega⟩
  exact Sf.ok z_5
set_option maxHeartbeats 2000000 in
theorem sX1_goesUp {f : Bx} {k0 : Nat} {x1 : Int32} {M : Mem} (hk0 : isP k0) (h_M : OKb f M) (hx1 : (-8 : Int) ≤ (x1).toInt ∧ (x1).toInt ≤ 7) : Sf (mX1_goesUp k0 x1 M) (pI (0) (1)) := by
  unfold mX1_goesUp
  have b_1 : (0 : Int) ≤ (rd M k0 2).toInt ∧ (rd M k0 2).toInt ≤ 255 := h_M.at (bx_P0 hk0)
  try have a_2 := i_shr (a := (rd M k0 2)) (b := x1) (by omega)
  have n_3 : ((1 : Int32)).toInt = 1 := rfl
  try have a_4 := i_and (a := ((rd M k0 2) >>> (x1 &&& 31))) (b := (1 : Int32)) (by omega)
  try have a_5 := i_andr (a := ((rd M k0 2) >>> (x1 &&& 31))) (b := (1 : Int32)) (by omega)
  have n_6 : ((0 : Int32)).toInt = 0 := rfl
  refine Sf.i (fun c_7 => ?_) (fun c_7 => ?_)
  · have c_7 := i_eq.mp c_7
    have n_8 : ((0 : Int32)).toInt = 0 := rfl
    have z_9 : (0 : Int) ≤ ((0 : Int32)).toInt ∧ ((0 : Int32)).toInt ≤ 1 := ⟨by omega, by omega⟩
    exact Sf.ok z_9
  · have c_7 := i_ne c_7
    have z_10 : (0 : Int) ≤ ((1 : Int32)).toInt ∧ ((1 : Int32)).toInt ≤ 1 := ⟨by omega, by omega⟩
    exact Sf.ok z_10
set_option maxHeartbeats 2000000 in
theorem sX1_addStep {f : Bx} {k0 : Nat} {x1 : Int32} {x2 : Int32} {x3 : Int32} {M : Mem} (hk0 : isP k0) (h_M : OKb f M) (hx1 : (0 : Int) ≤ (x1).toInt ∧ (x1).toInt ≤ 15) (hx2 : (0 : Int) ≤ (x2).toInt ∧ (x2).toInt ≤ 2147483647) (hx3 : (0 : Int) ≤ (x3).toInt ∧ (x3).toInt ≤ 297) : Sf (mX1_addStep k0 x1 x2 x3 M) (pM f) := by
  unfold mX1_addStep
  have n_1 : ((8 : Int32)).toInt = 8 := rfl
  have b_2 : (0 : Int) ≤ (rd M k0 14).toInt ∧ (rd M k0 14).toInt ≤ 8 := h_M.at (bx_P0 hk0)
  refine Sf.i (fun c_3 => ?_) (fun c_3 => ?_)
  · have c_3 := i_le.mp c_3
    exact Sf.ok h_M
  · have c_3 := i_nle c_3
    refine Sf.k (ok_in (by omega) (by omega)) ?_
    have z_4 : (0 : Int) ≤ (x1).toInt ∧ (x1).toInt ≤ 15 := ⟨by omega, by omega⟩
    refine Sf.b (fun M4 e_M4 => ?_)
    have h_M4 : OKb f M4 := by rw [e_M4]; exact h_M.put (bx_P (c := 5) hk0 (by omega)) z_4
    have w_5 : (rd M4 k0 14).toInt = (rd M k0 14).toInt := by rw [e_M4, rd_wk (by omega)]
    refine Sf.k (ok_in (by omega) (by omega)) ?_
    refine Sf.b (fun M7 e_M7 => ?_)
    have h_M7 : OKb f M7 := by rw [e_M7]; exact h_M4.put (bx_P (c := 6) hk0 (by omega)) (i_rng _)
    have w_6 : (rd M7 k0 14).toInt = (rd M4 k0 14).toInt := by rw [e_M7, rd_wk (by omega)]
    have w_7 : (rd M4 k0 14).toInt = (rd M k0 14).toInt := by rw [e_M4, rd_wk (by omega)]
    refine Sf.k (ok_in (by omega) (by omega)) ?_
    have z_8 : (0 : Int) ≤ (x3).toInt ∧ (x3).toInt ≤ 297 := ⟨by omega, by omega⟩
    refine Sf.b (fun M10 e_M10 => ?_)
    have h_M10 : OKb f M10 := by rw [e_M10]; exact h_M7.put (bx_P (c := 7) hk0 (by omega)) z_8
    have w_9 : (rd M10 k0 14).toInt = (rd M7 k0 14).toInt := by rw [e_M10, rd_wk (by omega)]
    have w_10 : (rd M7 k0 14).toInt = (rd M4 k0 14).toInt := by rw [e_M7, rd_wk (by omega)]
    have w_11 : (rd M4 k0 14).toInt = (rd M k0 14).toInt := by rw [e_M4, rd_wk (by omega)]
    have n_12 : ((1 : Int32)).toInt = 1 := rfl
    try have a_13 : (((rd M10 k0 14) + (1 : Int32))).toInt = ((rd M10 k0 14)).toInt + ((1 : Int32)).toInt := i_add (by omega) (by omega)
    have z_14 : (0 : Int) ≤ (((rd M10 k0 14) + (1 : Int32))).toInt ∧ (((rd M10 k0 14) + (1 : Int32))).toInt ≤ 8 := ⟨by omega, by omega⟩
    refine Sf.b (fun M11 e_M11 => ?_)
    have h_M11 : OKb f M11 := by rw [e_M11]; exact h_M10.put (bx_P0 hk0) z_14
    have w_15 : (rd M11 k0 13).toInt = (rd M10 k0 13).toInt := by rw [e_M11, rd_wj (by decide)]
    have w_16 : (rd M10 k0 13).toInt = (rd M7 k0 13).toInt := by rw [e_M10, rd_wk (by omega)]
    have w_17 : (rd M7 k0 13).toInt = (rd M4 k0 13).toInt := by rw [e_M7, rd_wk (by omega)]
    have w_18 : (rd M4 k0 13).toInt = (rd M k0 13).toInt := by rw [e_M4, rd_wk (by omega)]
    have b_19 : (0 : Int) ≤ (rd M k0 13).toInt ∧ (rd M k0 13).toInt ≤ 255 := h_M.at (bx_P0 hk0)
    try have a_20 := i_shr1 (a := x1)
    try have a_21 : 0 < (((1 : Int32) <<< ((x1 >>> ((1 : Int32) &&& 31)) &&& 31))).toInt ∧ (((1 : Int32) <<< ((x1 >>> ((1 : Int32) &&& 31)) &&& 31))).toInt ≤ 128 := i_shl 7 (by decide) ⟨by omega, by omega⟩
    try have a_22 : 0 ≤ (((rd M11 k0 13) ||| ((1 : Int32) <<< ((x1 >>> ((1 : Int32) &&& 31)) &&& 31)))).toInt ∧ (((rd M11 k0 13) ||| ((1 : Int32) <<< ((x1 >>> ((1 : Int32) &&& 31)) &&& 31)))).toInt < 256 := i_or 8 (by decide) ⟨by omega, by omega⟩ ⟨by omega, by omega⟩
    have z_23 : (0 : Int) ≤ (((rd M11 k0 13) ||| ((1 : Int32) <<< ((x1 >>> ((1 : Int32) &&& 31)) &&& 31)))).toInt ∧ (((rd M11 k0 13) ||| ((1 : Int32) <<< ((x1 >>> ((1 : Int32) &&& 31)) &&& 31)))).toInt ≤ 255 := ⟨by omega, by omega⟩
    refine Sf.b (fun M13 e_M13 => ?_)
    have h_M13 : OKb f M13 := by rw [e_M13]; exact h_M11.put (bx_P0 hk0) z_23
    exact Sf.ok h_M13
set_option maxHeartbeats 2000000 in
theorem sX1_lastCode {f : Bx} {k0 : Nat} {M : Mem} (hk0 : isP k0) (h_M : OKb f M) : Sf (mX1_lastCode k0 M) (pI (-1) (15)) := by
  unfold mX1_lastCode
  have b_1 : (0 : Int) ≤ (rd M k0 14).toInt ∧ (rd M k0 14).toInt ≤ 8 := h_M.at (bx_P0 hk0)
  have n_2 : ((0 : Int32)).toInt = 0 := rfl
  refine Sf.i (fun c_3 => ?_) (fun c_3 => ?_)
  · have c_3 := i_le.mp c_3
    have n_4 : (((-1) : Int32)).toInt = -1 := rfl
    have z_5 : (-1 : Int) ≤ (((-1) : Int32)).toInt ∧ (((-1) : Int32)).toInt ≤ 15 := ⟨by omega, by omega⟩
    exact Sf.ok z_5
  · have c_3 := i_nle c_3
    have n_6 : ((1 : Int32)).toInt = 1 := rfl
    try have a_7 : (((rd M k0 14) - (1 : Int32))).toInt = ((rd M k0 14)).toInt - ((1 : Int32)).toInt := i_sub (by omega) (by omega)
    refine Sf.k (ok_in (by omega) (by omega)) ?_
    have b_8 : (0 : Int) ≤ (rd M (k0 + 5) ((((rd M k0 14) - (1 : Int32))).toNatClampNeg)).toInt ∧ (rd M (k0 + 5) ((((rd M k0 14) - (1 : Int32))).toNatClampNeg)).toInt ≤ 15 := h_M.at (bx_P (c := 5) hk0 (by omega))
    have z_9 : (-1 : Int) ≤ ((rd M (k0 + 5) ((((rd M k0 14) - (1 : Int32))).toNatClampNeg))).toInt ∧ ((rd M (k0 + 5) ((((rd M k0 14) - (1 : Int32))).toNatClampNeg))).toInt ≤ 15 := ⟨by omega, by omega⟩
    exact Sf.ok z_9
set_option maxHeartbeats 2000000 in
theorem sX1_lastGauge {f : Bx} {k0 : Nat} {M : Mem} (hk0 : isP k0) (h_M : OKb f M) : Sf (mX1_lastGauge k0 M) (pI (-2147483648) (2147483647)) := by
  unfold mX1_lastGauge
  have b_1 : (0 : Int) ≤ (rd M k0 14).toInt ∧ (rd M k0 14).toInt ≤ 8 := h_M.at (bx_P0 hk0)
  have n_2 : ((0 : Int32)).toInt = 0 := rfl
  refine Sf.i (fun c_3 => ?_) (fun c_3 => ?_)
  · have c_3 := i_le.mp c_3
    exact Sf.ok (i_rng _)
  · have c_3 := i_nle c_3
    have n_4 : ((1 : Int32)).toInt = 1 := rfl
    try have a_5 : (((rd M k0 14) - (1 : Int32))).toInt = ((rd M k0 14)).toInt - ((1 : Int32)).toInt := i_sub (by omega) (by omega)
    refine Sf.k (ok_in (by omega) (by omega)) ?_
    exact Sf.ok (i_rng _)
set_option maxHeartbeats 2000000 in
theorem sX1_priceBetween_b54 {f : Bx} {k0 : Nat} {M : Mem} {x2 : Int32} {x4 : Int32} {x5 : Int32} (hk0 : isP k0) (h_M : OKb f M) (hx4 : (0 : Int) ≤ (x4).toInt ∧ (x4).toInt ≤ 2147483647) (hx5 : (0 : Int) ≤ (x5).toInt ∧ (x5).toInt ≤ 198) : Sf (mX1_priceBetween_b54 k0 M x2 x4 x5) (pI (0) (297)) := by
  unfold mX1_priceBetween_b54
  refine Sf.i (fun c_1 => ?_) (fun c_1 => ?_)
  · have c_1 := i_eq.mp c_1
    have z_2 : (0 : Int) ≤ (x5).toInt ∧ (x5).toInt ≤ 297 := ⟨by omega, by omega⟩
    exact Sf.ok z_2
  · have c_1 := i_ne c_1
    have b_3 : (0 : Int) ≤ (rd M k0 9).toInt ∧ (rd M k0 9).toInt ≤ 99 := h_M.at (bx_P0 hk0)
    try have a_4 : ((x5 + (rd M k0 9))).toInt = (x5).toInt + ((rd M k0 9)).toInt := i_add (by omega) (by omega)
    refine Sf.b (fun x5_67 e_x5_67 => ?_)
    have d_x5_67 := congrArg Int32.toInt e_x5_67
    have z_5 : (0 : Int) ≤ (x5_67).toInt ∧ (x5_67).toInt ≤ 297 := ⟨by omega, by omega⟩
    exact Sf.ok z_5
set_option maxHeartbeats 2000000 in
theorem sX1_priceBetween_b36 {f : Bx} {k0 : Nat} {M : Mem} {x1 : Int32} {x2 : Int32} {x3 : Int32} {x4 : Int32} {x5 : Int32} (hk0 : isP k0) (h_M : OKb f M) (hx1 : (0 : Int) ≤ (x1).toInt ∧ (x1).toInt ≤ 15) (hx3 : (0 : Int) ≤ (x3).toInt ∧ (x3).toInt ≤ 15) (hx4 : (0 : Int) ≤ (x4).toInt ∧ (x4).toInt ≤ 2147483647) (hx5 : (0 : Int) ≤ (x5).toInt ∧ (x5).toInt ≤ 99) : Sf (mX1_priceBetween_b36 k0 M x1 x2 x3 x4 x5) (pI (0) (297)) := by
  unfold mX1_priceBetween_b36
  have n_1 : ((1 : Int32)).toInt = 1 := rfl
  try have a_2 := i_and (a := x1) (b := (1 : Int32)) (by omega)
  try have a_3 := i_andr (a := x1) (b := (1 : Int32)) (by omega)
  try have a_4 := i_and (a := x3) (b := (1 : Int32)) (by omega)
  try have a_5 := i_andr (a := x3) (b := (1 : Int32)) (by omega)
  refine Sf.i (fun c_6 => ?_) (fun c_6 => ?_)
  · have c_6 := i_eq.mp c_6
    have g_7 := i_rng x4
    exact (sX1_priceBetween_b54 hk0 h_M ⟨by omega, by omega⟩ ⟨by omega, by omega⟩)
  · have c_6 := i_ne c_6
    have b_8 : (0 : Int) ≤ (rd M k0 8).toInt ∧ (rd M k0 8).toInt ≤ 99 := h_M.at (bx_P0 hk0)
    try have a_9 : ((x5 + (rd M k0 8))).toInt = (x5).toInt + ((rd M k0 8)).toInt := i_add (by omega) (by omega)
    refine Sf.b (fun x5_52 e_x5_52 => ?_)
    have d_x5_52 := congrArg Int32.toInt e_x5_52
    have g_10 := i_rng x4
    exact (sX1_priceBetween_b54 hk0 h_M ⟨by omega, by omega⟩ ⟨by omega, by omega⟩)
set_option maxHeartbeats 2000000 in
theorem sX1_priceBetween {f : Bx} {k0 : Nat} {x1 : Int32} {x2 : Int32} {x3 : Int32} {x4 : Int32} {M : Mem} (hk0 : isP k0) (h_M : OKb f M) (hx1 : (-1 : Int) ≤ (x1).toInt ∧ (x1).toInt ≤ 15) (hx3 : (0 : Int) ≤ (x3).toInt ∧ (x3).toInt ≤ 15) (hx4 : (0 : Int) ≤ (x4).toInt ∧ (x4).toInt ≤ 2147483647) : Sf (mX1_priceBetween k0 x1 x2 x3 x4 M) (pI (0) (297)) := by
  unfold mX1_priceBetween
  have n_1 : (((-1) : Int32)).toInt = -1 := rfl
  refine Sf.i (fun c_2 => ?_) (fun c_2 => ?_)
  · have c_2 := i_eq.mp c_2
    have n_3 : ((0 : Int32)).toInt = 0 := rfl
    have z_4 : (0 : Int) ≤ ((0 : Int32)).toInt ∧ ((0 : Int32)).toInt ≤ 297 := ⟨by omega, by omega⟩
    exact Sf.ok z_4
  · have c_2 := i_ne c_2
    try have a_5 := i_shr1 (a := x1)
    refine Sf.c (sX1_goesUp hk0 h_M ⟨by omega, by omega⟩) (fun r3 p_6 => ?_)
    obtain ⟨p_6a, p_6b⟩ := p_6
    try have a_7 := i_shr1 (a := x3)
    refine Sf.c (sX1_goesUp hk0 h_M ⟨by omega, by omega⟩) (fun r6 p_8 => ?_)
    obtain ⟨p_8a, p_8b⟩ := p_8
    refine Sf.i (fun c_9 => ?_) (fun c_9 => ?_)
    · have c_9 := i_eq.mp c_9
      have g_10 := i_rng x4
      have n_11 : ((0 : Int32)).toInt = 0 := rfl
      exact (sX1_priceBetween_b36 hk0 h_M ⟨by omega, by omega⟩ ⟨by omega, by omega⟩ ⟨by omega, by omega⟩ ⟨by omega, by omega⟩)
    · have c_9 := i_ne c_9
      have n_12 : ((0 : Int32)).toInt = 0 := rfl
      have b_13 : (0 : Int) ≤ (rd M k0 7).toInt ∧ (rd M k0 7).toInt ≤ 99 := h_M.at (bx_P0 hk0)
      try have a_14 : (((0 : Int32) + (rd M k0 7))).toInt = ((0 : Int32)).toInt + ((rd M k0 7)).toInt := i_add (by omega) (by omega)
      refine Sf.b (fun x5_34 e_x5_34 => ?_)
      have d_x5_34 := congrArg Int32.toInt e_x5_34
      have g_15 := i_rng x4
      exact (sX1_priceBetween_b36 hk0 h_M ⟨by omega, by omega⟩ ⟨by omega, by omega⟩ ⟨by omega, by omega⟩ ⟨by omega, by omega⟩)
set_option maxHeartbeats 2000000 in
theorem sX2_walk_b272 {f : Bx} {k0 : Nat} {k1 : Nat} {ih13 : Int32 → Int32 → Int32 → Int32 → Int32 → Int32 → Int32 → Int32 → Mem → Option (Mem × Unit)} {x3 : Int32} {x5 : Int32} {x6 : Int32} {x7 : Int32} {x8 : Int32} {x9 : Int32} {x10 : Int32} {x11 : Int32} {M : Mem} {d13 : Nat} (hk0 : isL k0) (hk1 : isP k1) (h_M : OKb f M) (hx3 : (-1 : Int) ≤ (x3).toInt ∧ (x3).toInt ≤ 1) (hx5 : (1 : Int) ≤ (x5).toInt ∧ (x5).toInt ≤ 3) (hx6 : (0 : Int) ≤ (x6).toInt ∧ (x6).toInt ≤ 255) (hx10 : (0 : Int) ≤ (x10).toInt ∧ (x10).toInt ≤ 3) (hx11 : (0 : Int) ≤ (x11).toInt ∧ (x11).toInt ≤ 8) (he0 : (1 : Int) ≤ (rd M k0 6).toInt ∧ (rd M k0 6).toInt ≤ 9) (hr0 : ((x3).toInt = 1 ∨ (x3).toInt = -1)) (hih13 : ∀ (yx3 : Int32) (yx5 : Int32) (yx6 : Int32) (yx7 : Int32) (yx8 : Int32) (yx9 : Int32) (yx10 : Int32) (yx11 : Int32) (M : Mem), OKb f M → ((-1 : Int) ≤ (yx3).toInt ∧ (yx3).toInt ≤ 1) → ((1 : Int) ≤ (yx5).toInt ∧ (yx5).toInt ≤ 3) → ((0 : Int) ≤ (yx6).toInt ∧ (yx6).toInt ≤ 255) → ((0 : Int) ≤ (yx10).toInt ∧ (yx10).toInt ≤ 3) → ((-1 : Int) ≤ (yx11).toInt ∧ (yx11).toInt ≤ 9) → (((yx3).toInt = 1 ∨ (yx3).toInt = -1)) → (if (yx3).toInt = 1 then 10 - (yx11).toInt else (yx11).toInt + 2) < d13 → Sf (ih13 yx3 yx5 yx6 yx7 yx8 yx9 yx10 yx11 M) (pM f)) (hmu13 : (if (x3).toInt = 1 then 10 - (x11).toInt else (x11).toInt + 2) ≤ d13) : Sf (mX2_walk_b272 k0 k1 ih13 x3 x5 x6 x7 x8 x9 x10 x11 M) (pM f) := by
  unfold mX2_walk_b272
  try have a_1 : ((x11 + x3)).toInt = (x11).toInt + (x3).toInt := i_add (by omega) (by omega)
  refine Sf.b (fun x11_276 e_x11_276 => ?_)
  have d_x11_276 := congrArg Int32.toInt e_x11_276
  exact (hih13 _ _ _ _ _ _ _ _ _ h_M ⟨by omega, by omega⟩ ⟨by omega, by omega⟩ ⟨by omega, by omega⟩ ⟨by omega, by omega⟩ ⟨by omega, by omega⟩ (by omega) (by omega))
set_option maxHeartbeats 2000000 in
theorem sX2_walk_b267 {f : Bx} {k0 : Nat} {k1 : Nat} {ih13 : Int32 → Int32 → Int32 → Int32 → Int32 → Int32 → Int32 → Int32 → Mem → Option (Mem × Unit)} {x3 : Int32} {x5 : Int32} {x6 : Int32} {x7 : Int32} {x8 : Int32} {x9 : Int32} {x11 : Int32} {y0 : Int32} {y1 : Int32} {M : Mem} {d13 : Nat} (hk0 : isL k0) (hk1 : isP k1) (h_M : OKb f M) (hx3 : (-1 : Int) ≤ (x3).toInt ∧ (x3).toInt ≤ 1) (hx5 : (1 : Int) ≤ (x5).toInt ∧ (x5).toInt ≤ 3) (hx6 : (0 : Int) ≤ (x6).toInt ∧ (x6).toInt ≤ 255) (hx11 : (0 : Int) ≤ (x11).toInt ∧ (x11).toInt ≤ 8) (hy0 : (0 : Int) ≤ (y0).toInt ∧ (y0).toInt ≤ 3) (hy1 : (1 : Int) ≤ (y1).toInt ∧ (y1).toInt ≤ 3) (he0 : (1 : Int) ≤ (rd M k0 6).toInt ∧ (rd M k0 6).toInt ≤ 9) (hr0 : ((x3).toInt = 1 ∨ (x3).toInt = -1)) (hih13 : ∀ (yx3 : Int32) (yx5 : Int32) (yx6 : Int32) (yx7 : Int32) (yx8 : Int32) (yx9 : Int32) (yx10 : Int32) (yx11 : Int32) (M : Mem), OKb f M → ((-1 : Int) ≤ (yx3).toInt ∧ (yx3).toInt ≤ 1) → ((1 : Int) ≤ (yx5).toInt ∧ (yx5).toInt ≤ 3) → ((0 : Int) ≤ (yx6).toInt ∧ (yx6).toInt ≤ 255) → ((0 : Int) ≤ (yx10).toInt ∧ (yx10).toInt ≤ 3) → ((-1 : Int) ≤ (yx11).toInt ∧ (yx11).toInt ≤ 9) → (((yx3).toInt = 1 ∨ (yx3).toInt = -1)) → (if (yx3).toInt = 1 then 10 - (yx11).toInt else (yx11).toInt + 2) < d13 → Sf (ih13 yx3 yx5 yx6 yx7 yx8 yx9 yx10 yx11 M) (pM f)) (hmu13 : (if (x3).toInt = 1 then 10 - (x11).toInt else (x11).toInt + 2) ≤ d13) : Sf (mX2_walk_b267 k0 k1 ih13 x3 x5 x6 x7 x8 x9 x11 y0 y1 M) (pM f) := by
  unfold mX2_walk_b267
  try have a_1 : ((y0 + y1)).toInt = (y0).toInt + (y1).toInt := i_add (by omega) (by omega)
  have n_2 : ((3 : Int32)).toInt = 3 := rfl
  try have a_3 := i_and (a := (y0 + y1)) (b := (3 : Int32)) (by omega)
  try have a_4 := i_andr (a := (y0 + y1)) (b := (3 : Int32)) (by omega)
  refine Sf.b (fun x10_270 e_x10_270 => ?_)
  have d_x10_270 := congrArg Int32.toInt e_x10_270
  have b_5 : (0 : Int) ≤ (rd M k0 6).toInt ∧ (rd M k0 6).toInt ≤ 9 := h_M.at (bx_L0 hk0)
  exact (sX2_walk_b272 hk0 hk1 h_M ⟨by omega, by omega⟩ ⟨by omega, by omega⟩ ⟨by omega, by omega⟩ ⟨by omega, by omega⟩ ⟨by omega, by omega⟩ ⟨by omega, by omega⟩ (by omega) hih13 (by omega))
set_option maxHeartbeats 2000000 in
theorem sX2_walk_b249 {f : Bx} {k0 : Nat} {k1 : Nat} {ih13 : Int32 → Int32 → Int32 → Int32 → Int32 → Int32 → Int32 → Int32 → Mem → Option (Mem × Unit)} {x3 : Int32} {x5 : Int32} {x6 : Int32} {x7 : Int32} {x8 : Int32} {x9 : Int32} {x10 : Int32} {x11 : Int32} {y0 : Int32} {M : Mem} {d13 : Nat} (hk0 : isL k0) (hk1 : isP k1) (h_M : OKb f M) (hx3 : (-1 : Int) ≤ (x3).toInt ∧ (x3).toInt ≤ 1) (hx5 : (1 : Int) ≤ (x5).toInt ∧ (x5).toInt ≤ 3) (hx6 : (0 : Int) ≤ (x6).toInt ∧ (x6).toInt ≤ 255) (hx10 : (0 : Int) ≤ (x10).toInt ∧ (x10).toInt ≤ 3) (hx11 : (0 : Int) ≤ (x11).toInt ∧ (x11).toInt ≤ 8) (hy0 : (0 : Int) ≤ (y0).toInt ∧ (y0).toInt ≤ 1) (he0 : (1 : Int) ≤ (rd M k0 6).toInt ∧ (rd M k0 6).toInt ≤ 9) (hr0 : ((x3).toInt = 1 ∨ (x3).toInt = -1)) (hih13 : ∀ (yx3 : Int32) (yx5 : Int32) (yx6 : Int32) (yx7 : Int32) (yx8 : Int32) (yx9 : Int32) (yx10 : Int32) (yx11 : Int32) (M : Mem), OKb f M → ((-1 : Int) ≤ (yx3).toInt ∧ (yx3).toInt ≤ 1) → ((1 : Int) ≤ (yx5).toInt ∧ (yx5).toInt ≤ 3) → ((0 : Int) ≤ (yx6).toInt ∧ (yx6).toInt ≤ 255) → ((0 : Int) ≤ (yx10).toInt ∧ (yx10).toInt ≤ 3) → ((-1 : Int) ≤ (yx11).toInt ∧ (yx11).toInt ≤ 9) → (((yx3).toInt = 1 ∨ (yx3).toInt = -1)) → (if (yx3).toInt = 1 then 10 - (yx11).toInt else (yx11).toInt + 2) < d13 → Sf (ih13 yx3 yx5 yx6 yx7 yx8 yx9 yx10 yx11 M) (pM f)) (hmu13 : (if (x3).toInt = 1 then 10 - (x11).toInt else (x11).toInt + 2) ≤ d13) : Sf (mX2_walk_b249 k0 k1 ih13 x3 x5 x6 x7 x8 x9 x10 x11 y0 M) (pM f) := by
  unfold mX2_walk_b249
  have n_1 : ((0 : Int32)).toInt = 0 := rfl
  refine Sf.i (fun c_2 => ?_) (fun c_2 => ?_)
  · have c_2 := i_eq.mp c_2
    have n_3 : ((4 : Int32)).toInt = 4 := rfl
    try have a_4 : (((4 : Int32) - x5)).toInt = ((4 : Int32)).toInt - (x5).toInt := i_sub (by omega) (by omega)
    have b_5 : (0 : Int) ≤ (rd M k0 6).toInt ∧ (rd M k0 6).toInt ≤ 9 := h_M.at (bx_L0 hk0)
    exact (sX2_walk_b267 hk0 hk1 h_M ⟨by omega, by omega⟩ ⟨by omega, by omega⟩ ⟨by omega, by omega⟩ ⟨by omega, by omega⟩ ⟨by omega, by omega⟩ ⟨by omega, by omega⟩ ⟨by omega, by omega⟩ (by omega) hih13 (by omega))
  · have c_2 := i_ne c_2
    have b_6 : (0 : Int) ≤ (rd M k0 6).toInt ∧ (rd M k0 6).toInt ≤ 9 := h_M.at (bx_L0 hk0)
    exact (sX2_walk_b267 hk0 hk1 h_M ⟨by omega, by omega⟩ ⟨by omega, by omega⟩ ⟨by omega, by omega⟩ ⟨by omega, by omega⟩ ⟨by omega, by omega⟩ ⟨by omega, by omega⟩ ⟨by omega, by omega⟩ (by omega) hih13 (by omega))
set_option maxHeartbeats 2000000 in
theorem sX2_walk_b217 {f : Bx} {k0 : Nat} {k1 : Nat} {ih13 : Int32 → Int32 → Int32 → Int32 → Int32 → Int32 → Int32 → Int32 → Mem → Option (Mem × Unit)} {x3 : Int32} {x5 : Int32} {x6 : Int32} {x7 : Int32} {x8 : Int32} {x9 : Int32} {x10 : Int32} {x11 : Int32} {y0 : Int32} {M : Mem} {d13 : Nat} (hk0 : isL k0) (hk1 : isP k1) (h_M : OKb f M) (hx3 : (-1 : Int) ≤ (x3).toInt ∧ (x3).toInt ≤ 1) (hx5 : (1 : Int) ≤ (x5).toInt ∧ (x5).toInt ≤ 3) (hx6 : (0 : Int) ≤ (x6).toInt ∧ (x6).toInt ≤ 255) (hx10 : (0 : Int) ≤ (x10).toInt ∧ (x10).toInt ≤ 3) (hx11 : (0 : Int) ≤ (x11).toInt ∧ (x11).toInt ≤ 8) (hy0 : (-1 : Int) ≤ (y0).toInt ∧ (y0).toInt ≤ 8) (he0 : (1 : Int) ≤ (rd M k0 6).toInt ∧ (rd M k0 6).toInt ≤ 9) (hr0 : ((x3).toInt = 1 ∨ (x3).toInt = -1)) (hih13 : ∀ (yx3 : Int32) (yx5 : Int32) (yx6 : Int32) (yx7 : Int32) (yx8 : Int32) (yx9 : Int32) (yx10 : Int32) (yx11 : Int32) (M : Mem), OKb f M → ((-1 : Int) ≤ (yx3).toInt ∧ (yx3).toInt ≤ 1) → ((1 : Int) ≤ (yx5).toInt ∧ (yx5).toInt ≤ 3) → ((0 : Int) ≤ (yx6).toInt ∧ (yx6).toInt ≤ 255) → ((0 : Int) ≤ (yx10).toInt ∧ (yx10).toInt ≤ 3) → ((-1 : Int) ≤ (yx11).toInt ∧ (yx11).toInt ≤ 9) → (((yx3).toInt = 1 ∨ (yx3).toInt = -1)) → (if (yx3).toInt = 1 then 10 - (yx11).toInt else (yx11).toInt + 2) < d13 → Sf (ih13 yx3 yx5 yx6 yx7 yx8 yx9 yx10 yx11 M) (pM f)) (hmu13 : (if (x3).toInt = 1 then 10 - (x11).toInt else (x11).toInt + 2) ≤ d13) : Sf (mX2_walk_b217 k0 k1 ih13 x3 x5 x6 x7 x8 x9 x10 x11 y0 M) (pM f) := by
  unfold mX2_walk_b217
  have n_1 : ((0 : Int32)).toInt = 0 := rfl
  refine Sf.i (fun c_2 => ?_) (fun c_2 => ?_)
  · have c_2 := i_lt.mp c_2
    have b_3 : (0 : Int) ≤ (rd M k0 6).toInt ∧ (rd M k0 6).toInt ≤ 9 := h_M.at (bx_L0 hk0)
    exact (sX2_walk_b272 hk0 hk1 h_M ⟨by omega, by omega⟩ ⟨by omega, by omega⟩ ⟨by omega, by omega⟩ ⟨by omega, by omega⟩ ⟨by omega, by omega⟩ ⟨by omega, by omega⟩ (by omega) hih13 (by omega))
  · have c_2 := i_nlt c_2
    try have a_4 := i_shr (a := x6) (b := y0) (by omega)
    have n_5 : ((1 : Int32)).toInt = 1 := rfl
    try have a_6 := i_and (a := (x6 >>> (y0 &&& 31))) (b := (1 : Int32)) (by omega)
    try have a_7 := i_andr (a := (x6 >>> (y0 &&& 31))) (b := (1 : Int32)) (by omega)
    refine Sf.i (fun c_8 => ?_) (fun c_8 => ?_)
    · have c_8 := i_eq.mp c_8
      have b_9 : (0 : Int) ≤ (rd M k0 6).toInt ∧ (rd M k0 6).toInt ≤ 9 := h_M.at (bx_L0 hk0)
      exact (sX2_walk_b272 hk0 hk1 h_M ⟨by omega, by omega⟩ ⟨by omega, by omega⟩ ⟨by omega, by omega⟩ ⟨by omega, by omega⟩ ⟨by omega, by omega⟩ ⟨by omega, by omega⟩ (by omega) hih13 (by omega))
    · have c_8 := i_ne c_8
      try have a_10 := i_andr (a := (x7 >>> (y0 &&& 31))) (b := (1 : Int32)) (by omega)
      refine Sf.i (fun c_11 => ?_) (fun c_11 => ?_)
      · have c_11 := i_eq.mp c_11
        have n_12 : ((0 : Int32)).toInt = 0 := rfl
        have b_13 : (0 : Int) ≤ (rd M k0 6).toInt ∧ (rd M k0 6).toInt ≤ 9 := h_M.at (bx_L0 hk0)
        exact (sX2_walk_b249 hk0 hk1 h_M ⟨by omega, by omega⟩ ⟨by omega, by omega⟩ ⟨by omega, by omega⟩ ⟨by omega, by omega⟩ ⟨by omega, by omega⟩ ⟨by omega, by omega⟩ ⟨by omega, by omega⟩ (by omega) hih13 (by omega))
      · have c_11 := i_ne c_11
        have b_14 : (0 : Int) ≤ (rd M k0 6).toInt ∧ (rd M k0 6).toInt ≤ 9 := h_M.at (bx_L0 hk0)
        exact (sX2_walk_b249 hk0 hk1 h_M ⟨by omega, by omega⟩ ⟨by omega, by omega⟩ ⟨by omega, by omega⟩ ⟨by omega, by omega⟩ ⟨by omega, by omega⟩ ⟨by omega, by omega⟩ ⟨by omega, by omega⟩ (by omega) hih13 (by omega))
set_option maxHeartbeats 2000000 in
theorem sX2_walk_b108 {f : Bx} {k0 : Nat} {k1 : Nat} {ih13 : Int32 → Int32 → Int32 → Int32 → Int32 → Int32 → Int32 → Int32 → Mem → Option (Mem × Unit)} {x3 : Int32} {x5 : Int32} {x6 : Int32} {x7 : Int32} {x8 : Int32} {x9 : Int32} {x10 : Int32} {x11 : Int32} {y1 : Int32} {y2 : Int32} {y3 : Int32} {M : Mem} {d13 : Nat} (hk0 : isL k0) (hk1 : isP k1) (h_M : OKb f M) (hx3 : (-1 : Int) ≤ (x3).toInt ∧ (x3).toInt ≤ 1) (hx5 : (1 : Int) ≤ (x5).toInt ∧ (x5).toInt ≤ 3) (hx6 : (0 : Int) ≤ (x6).toInt ∧ (x6).toInt ≤ 255) (hx10 : (0 : Int) ≤ (x10).toInt ∧ (x10).toInt ≤ 3) (hx11 : (0 : Int) ≤ (x11).toInt ∧ (x11).toInt ≤ 8) (hy1 : (0 : Int) ≤ (y1).toInt ∧ (y1).toInt ≤ 8) (hy3 : (-9999 : Int) ≤ (y3).toInt ∧ (y3).toInt ≤ 9999) (he0 : (1 : Int) ≤ (rd M k0 6).toInt ∧ (rd M k0 6).toInt ≤ 9) (hr0 : ((x3).toInt = 1 ∨ (x3).toInt = -1)) (hih13 : ∀ (yx3 : Int32) (yx5 : Int32) (yx6 : Int32) (yx7 : Int32) (yx8 : Int32) (yx9 : Int32) (yx10 : Int32) (yx11 : Int32) (M : Mem), OKb f M → ((-1 : Int) ≤ (yx3).toInt ∧ (yx3).toInt ≤ 1) → ((1 : Int) ≤ (yx5).toInt ∧ (yx5).toInt ≤ 3) → ((0 : Int) ≤ (yx6).toInt ∧ (yx6).toInt ≤ 255) → ((0 : Int) ≤ (yx10).toInt ∧ (yx10).toInt ≤ 3) → ((-1 : Int) ≤ (yx11).toInt ∧ (yx11).toInt ≤ 9) → (((yx3).toInt = 1 ∨ (yx3).toInt = -1)) → (if (yx3).toInt = 1 then 10 - (yx11).toInt else (yx11).toInt + 2) < d13 → Sf (ih13 yx3 yx5 yx6 yx7 yx8 yx9 yx10 yx11 M) (pM f)) (hmu13 : (if (x3).toInt = 1 then 10 - (x11).toInt else (x11).toInt + 2) ≤ d13) : Sf (mX2_walk_b108 k0 k1 ih13 x3 x5 x6 x7 x8 x9 x10 x11 y1 y2 y3 M) (pM f) := by
  unfold mX2_walk_b108
  refine Sf.k (ok_in (by omega) (by omega)) ?_
  refine Sf.b (fun M15 e_M15 => ?_)
  have h_M15 : OKb f M15 := by rw [e_M15]; exact h_M.put (bx_L (c := 2) hk0 (by omega)) (i_rng _)
  refine Sf.k (ok_in (by omega) (by omega)) ?_
  refine Sf.k (ok_in (by omega) (by omega)) ?_
  refine Sf.b (fun M19 e_M19 => ?_)
  have h_M19 : OKb f M19 := by rw [e_M19]; exact h_M15.put (bx_L (c := 3) hk0 (by omega)) (i_rng _)
  refine Sf.k (ok_in (by omega) (by omega)) ?_
  refine Sf.k (ok_in (by omega) (by omega)) ?_
  refine Sf.b (fun M23 e_M23 => ?_)
  have h_M23 : OKb f M23 := by rw [e_M23]; exact h_M19.put (bx_L (c := 4) hk0 (by omega)) (i_rng _)
  refine Sf.k (ok_in (by omega) (by omega)) ?_
  refine Sf.k (ok_in (by omega) (by omega)) ?_
  refine Sf.b (fun M27 e_M27 => ?_)
  have h_M27 : OKb f M27 := by rw [e_M27]; exact h_M23.put (bx_L (c := 5) hk0 (by omega)) (i_rng _)
  refine Sf.k (ok_in (by omega) (by omega)) ?_
  refine Sf.k (ok_in (by omega) (by omega)) ?_
  refine Sf.b (fun M31 e_M31 => ?_)
  have h_M31 : OKb f M31 := by rw [e_M31]; exact h_M27.put (bx_L (c := 6) hk0 (by omega)) (i_rng _)
  refine Sf.k (ok_in (by omega) (by omega)) ?_
  have w_1 : (rd M31 (k0 + 1) ((x11).toNatClampNeg)).toInt = (rd M27 (k0 + 1) ((x11).toNatClampNeg)).toInt := by rw [e_M31, rd_wk (by omega)]
  have w_2 : (rd M27 (k0 + 1) ((x11).toNatClampNeg)).toInt = (rd M23 (k0 + 1) ((x11).toNatClampNeg)).toInt := by rw [e_M27, rd_wk (by omega)]
  have w_3 : (rd M23 (k0 + 1) ((x11).toNatClampNeg)).toInt = (rd M19 (k0 + 1) ((x11).toNatClampNeg)).toInt := by rw [e_M23, rd_wk (by omega)]
  have w_4 : (rd M19 (k0 + 1) ((x11).toNatClampNeg)).toInt = (rd M15 (k0 + 1) ((x11).toNatClampNeg)).toInt := by rw [e_M19, rd_wk (by omega)]
  have w_5 : (rd M15 (k0 + 1) ((x11).toNatClampNeg)).toInt = (rd M (k0 + 1) ((x11).toNatClampNeg)).toInt := by rw [e_M15, rd_wk (by omega)]
  refine Sf.b (fun x8_193 e_x8_193 => ?_)
  have d_x8_193 := congrArg Int32.toInt e_x8_193
  refine Sf.k (ok_in (by omega) (by omega)) ?_
  have w_6 : (rd M31 (k0 + 2) ((x11).toNatClampNeg)).toInt = (rd M27 (k0 + 2) ((x11).toNatClampNeg)).toInt := by rw [e_M31, rd_wk (by omega)]
  have w_7 : (rd M27 (k0 + 2) ((x11).toNatClampNeg)).toInt = (rd M23 (k0 + 2) ((x11).toNatClampNeg)).toInt := by rw [e_M27, rd_wk (by omega)]
  have w_8 : (rd M23 (k0 + 2) ((x11).toNatClampNeg)).toInt = (rd M19 (k0 + 2) ((x11).toNatClampNeg)).toInt := by rw [e_M23, rd_wk (by omega)]
  have w_9 : (rd M19 (k0 + 2) ((x11).toNatClampNeg)).toInt = (rd M15 (k0 + 2) ((x11).toNatClampNeg)).toInt := by rw [e_M19, rd_wk (by omega)]
  refine Sf.b (fun x9_202 e_x9_202 => ?_)
  have d_x9_202 := congrArg Int32.toInt e_x9_202
  have n_11 : ((0 : Int32)).toInt = 0 := rfl
  refine Sf.i (fun c_12 => ?_) (fun c_12 => ?_)
  · have c_12 := i_le.mp c_12
    have n_13 : ((1 : Int32)).toInt = 1 := rfl
    try have a_14 : ((x11 - (1 : Int32))).toInt = (x11).toInt - ((1 : Int32)).toInt := i_sub (by omega) (by omega)
    have w_15 : (rd M31 k0 6).toInt = (rd M27 k0 6).toInt := by rw [e_M31, rd_wk (by omega)]
    have w_16 : (rd M27 k0 6).toInt = (rd M23 k0 6).toInt := by rw [e_M27, rd_wk (by omega)]
    have w_17 : (rd M23 k0 6).toInt = (rd M19 k0 6).toInt := by rw [e_M23, rd_wk (by omega)]
    have w_18 : (rd M19 k0 6).toInt = (rd M15 k0 6).toInt := by rw [e_M19, rd_wk (by omega)]
    have w_19 : (rd M15 k0 6).toInt = (rd M k0 6).toInt := by rw [e_M15, rd_wk (by omega)]
    have b_20 : (0 : Int) ≤ (rd M k0 6).toInt ∧ (rd M k0 6).toInt ≤ 9 := h_M.at (bx_L0 hk0)
    exact (sX2_walk_b217 hk0 hk1 h_M31 ⟨by omega, by omega⟩ ⟨by omega, by omega⟩ ⟨by omega, by omega⟩ ⟨by omega, by omega⟩ ⟨by omega, by omega⟩ ⟨by omega, by omega⟩ ⟨by omega, by omega⟩ (by omega) hih13 (by omega))
  · have c_12 := i_nle c_12
    have w_21 : (rd M31 k0 6).toInt = (rd M27 k0 6).toInt := by rw [e_M31, rd_wk (by omega)]
    have w_22 : (rd M27 k0 6).toInt = (rd M23 k0 6).toInt := by rw [e_M27, rd_wk (by omega)]
    have w_23 : (rd M23 k0 6).toInt = (rd M19 k0 6).toInt := by rw [e_M23, rd_wk (by omega)]
    have w_24 : (rd M19 k0 6).toInt = (rd M15 k0 6).toInt := by rw [e_M19, rd_wk (by omega)]
    have w_25 : (rd M15 k0 6).toInt = (rd M k0 6).toInt := by rw [e_M15, rd_wk (by omega)]
    have b_26 : (0 : Int) ≤ (rd M k0 6).toInt ∧ (rd M k0 6).toInt ≤ 9 := h_M.at (bx_L0 hk0)
    exact (sX2_walk_b217 hk0 hk1 h_M31 ⟨by omega, by omega⟩ ⟨by omega, by omega⟩ ⟨by omega, by omega⟩ ⟨by omega, by omega⟩ ⟨by omega, by omega⟩ ⟨by omega, by omega⟩ ⟨by omega, by omega⟩ (by omega) hih13 (by omega))
set_option maxHeartbeats 2000000 in
theorem sX2_walk_b75 {f : Bx} {k0 : Nat} {k1 : Nat} {ih13 : Int32 → Int32 → Int32 → Int32 → Int32 → Int32 → Int32 → Int32 → Mem → Option (Mem × Unit)} {x3 : Int32} {x5 : Int32} {x6 : Int32} {x7 : Int32} {x8 : Int32} {x9 : Int32} {x10 : Int32} {x11 : Int32} {x12 : Int32} {y1 : Int32} {y2 : Int32} {y3 : Int32} {M : Mem} {d13 : Nat} (hk0 : isL k0) (hk1 : isP k1) (h_M : OKb f M) (hx3 : (-1 : Int) ≤ (x3).toInt ∧ (x3).toInt ≤ 1) (hx5 : (1 : Int) ≤ (x5).toInt ∧ (x5).toInt ≤ 3) (hx6 : (0 : Int) ≤ (x6).toInt ∧ (x6).toInt ≤ 255) (hx10 : (0 : Int) ≤ (x10).toInt ∧ (x10).toInt ≤ 3) (hx11 : (0 : Int) ≤ (x11).toInt ∧ (x11).toInt ≤ 8) (hx12 : (0 : Int) ≤ (x12).toInt ∧ (x12).toInt ≤ 9999) (hy1 : (0 : Int) ≤ (y1).toInt ∧ (y1).toInt ≤ 8) (hy3 : (-9999 : Int) ≤ (y3).toInt ∧ (y3).toInt ≤ 9999) (he0 : (1 : Int) ≤ (rd M k0 6).toInt ∧ (rd M k0 6).toInt ≤ 9) (hr0 : ((x3).toInt = 1 ∨ (x3).toInt = -1)) (hih13 : ∀ (yx3 : Int32) (yx5 : Int32) (yx6 : Int32) (yx7 : Int32) (yx8 : Int32) (yx9 : Int32) (yx10 : Int32) (yx11 : Int32) (M : Mem), OKb f M → ((-1 : Int) ≤ (yx3).toInt ∧ (yx3).toInt ≤ 1) → ((1 : Int) ≤ (yx5).toInt ∧ (yx5).toInt ≤ 3) → ((0 : Int) ≤ (yx6).toInt ∧ (yx6).toInt ≤ 255) → ((0 : Int) ≤ (yx10).toInt ∧ (yx10).toInt ≤ 3) → ((-1 : Int) ≤ (yx11).toInt ∧ (yx11).toInt ≤ 9) → (((yx3).toInt = 1 ∨ (yx3).toInt = -1)) → (if (yx3).toInt = 1 then 10 - (yx11).toInt else (yx11).toInt + 2) < d13 → Sf (ih13 yx3 yx5 yx6 yx7 yx8 yx9 yx10 yx11 M) (pM f)) (hmu13 : (if (x3).toInt = 1 then 10 - (x11).toInt else (x11).toInt + 2) ≤ d13) : Sf (mX2_walk_b75 k0 k1 ih13 x3 x5 x6 x7 x8 x9 x10 x11 x12 y1 y2 y3 M) (pM f) := by
  unfold mX2_walk_b75
  refine Sf.k (ok_in (by omega) (by omega)) ?_
  refine Sf.b (fun M10 e_M10 => ?_)
  have h_M10 : OKb f M10 := by rw [e_M10]; exact h_M.put (bx_L (c := 1) hk0 (by omega)) (i_rng _)
  have n_1 : ((0 : Int32)).toInt = 0 := rfl
  refine Sf.i (fun c_2 => ?_) (fun c_2 => ?_)
  · have c_2 := i_eq.mp c_2
    have w_3 : (rd M10 k0 6).toInt = (rd M k0 6).toInt := by rw [e_M10, rd_wk (by omega)]
    have b_4 : (0 : Int) ≤ (rd M k0 6).toInt ∧ (rd M k0 6).toInt ≤ 9 := h_M.at (bx_L0 hk0)
    exact (sX2_walk_b108 hk0 hk1 h_M10 ⟨by omega, by omega⟩ ⟨by omega, by omega⟩ ⟨by omega, by omega⟩ ⟨by omega, by omega⟩ ⟨by omega, by omega⟩ ⟨by omega, by omega⟩ ⟨by omega, by omega⟩ ⟨by omega, by omega⟩ (by omega) hih13 (by omega))
  · have c_2 := i_ne c_2
    have n_5 : ((2 : Int32)).toInt = 2 := rfl
    refine Sf.i (fun c_6 => ?_) (fun c_6 => ?_)
    · have c_6 := i_eq.mp c_6
      try have a_7 := i_neg (a := x12) (by omega)
      have w_8 : (rd M10 k0 6).toInt = (rd M k0 6).toInt := by rw [e_M10, rd_wk (by omega)]
      have b_9 : (0 : Int) ≤ (rd M k0 6).toInt ∧ (rd M k0 6).toInt ≤ 9 := h_M.at (bx_L0 hk0)
      exact (sX2_walk_b108 hk0 hk1 h_M10 ⟨by omega, by omega⟩ ⟨by omega, by omega⟩ ⟨by omega, by omega⟩ ⟨by omega, by omega⟩ ⟨by omega, by omega⟩ ⟨by omega, by omega⟩ ⟨by omega, by omega⟩ ⟨by omega, by omega⟩ (by omega) hih13 (by omega))
    · have c_6 := i_ne c_6
      have n_10 : ((0 : Int32)).toInt = 0 := rfl
      have w_11 : (rd M10 k0 6).toInt = (rd M k0 6).toInt := by rw [e_M10, rd_wk (by omega)]
      have b_12 : (0 : Int) ≤ (rd M k0 6).toInt ∧ (rd M k0 6).toInt ≤ 9 := h_M.at (bx_L0 hk0)
      exact (sX2_walk_b108 hk0 hk1 h_M10 ⟨by omega, by omega⟩ ⟨by omega, by omega⟩ ⟨by omega, by omega⟩ ⟨by omega, by omega⟩ ⟨by omega, by omega⟩ ⟨by omega, by omega⟩ ⟨by omega, by omega⟩ ⟨by omega, by omega⟩ (by omega) hih13 (by omega))
set_option maxHeartbeats 2000000 in
theorem sX2_walk_b13 {f : Bx} {k0 : Nat} {k1 : Nat} {ih13 : Int32 → Int32 → Int32 → Int32 → Int32 → Int32 → Int32 → Int32 → Mem → Option (Mem × Unit)} {x3 : Int32} {x5 : Int32} {x6 : Int32} {x7 : Int32} {x8 : Int32} {x9 : Int32} {x10 : Int32} {x11 : Int32} {M : Mem} {d13 : Nat} (hk0 : isL k0) (hk1 : isP k1) (h_M : OKb f M) (hx3 : (-1 : Int) ≤ (x3).toInt ∧ (x3).toInt ≤ 1) (hx5 : (1 : Int) ≤ (x5).toInt ∧ (x5).toInt ≤ 3) (hx6 : (0 : Int) ≤ (x6).toInt ∧ (x6).toInt ≤ 255) (hx10 : (0 : Int) ≤ (x10).toInt ∧ (x10).toInt ≤ 3) (hx11 : (-1 : Int) ≤ (x11).toInt ∧ (x11).toInt ≤ 9) (hr0 : ((x3).toInt = 1 ∨ (x3).toInt = -1)) (hih13 : ∀ (yx3 : Int32) (yx5 : Int32) (yx6 : Int32) (yx7 : Int32) (yx8 : Int32) (yx9 : Int32) (yx10 : Int32) (yx11 : Int32) (M : Mem), OKb f M → ((-1 : Int) ≤ (yx3).toInt ∧ (yx3).toInt ≤ 1) → ((1 : Int) ≤ (yx5).toInt ∧ (yx5).toInt ≤ 3) → ((0 : Int) ≤ (yx6).toInt ∧ (yx6).toInt ≤ 255) → ((0 : Int) ≤ (yx10).toInt ∧ (yx10).toInt ≤ 3) → ((-1 : Int) ≤ (yx11).toInt ∧ (yx11).toInt ≤ 9) → (((yx3).toInt = 1 ∨ (yx3).toInt = -1)) → (if (yx3).toInt = 1 then 10 - (yx11).toInt else (yx11).toInt + 2) < d13 → Sf (ih13 yx3 yx5 yx6 yx7 yx8 yx9 yx10 yx11 M) (pM f)) (hmu13 : (if (x3).toInt = 1 then 10 - (x11).toInt else (x11).toInt + 2) ≤ d13) : Sf (mX2_walk_b13 k0 k1 ih13 x3 x5 x6 x7 x8 x9 x10 x11 M) (pM f) := by
  unfold mX2_walk_b13
  have n_1 : ((0 : Int32)).toInt = 0 := rfl
  refine Sf.i (fun c_2 => ?_) (fun c_2 => ?_)
  · have c_2 := i_lt.mp c_2
    exact Sf.ok h_M
  · have c_2 := i_nlt c_2
    have b_3 : (0 : Int) ≤ (rd M k0 6).toInt ∧ (rd M k0 6).toInt ≤ 9 := h_M.at (bx_L0 hk0)
    refine Sf.i (fun c_4 => ?_) (fun c_4 => ?_)
    · have c_4 := i_le.mp c_4
      exact Sf.ok h_M
    · have c_4 := i_nle c_4
      have n_5 : ((9 : Int32)).toInt = 9 := rfl
      refine Sf.i (fun c_6 => ?_) (fun c_6 => ?_)
      · have c_6 := i_le.mp c_6
        exfalso; omega
      · have c_6 := i_nle c_6
        refine Sf.k (ok_in (by omega) (by omega)) ?_
        have b_7 : (0 : Int) ≤ (rd M (k1 + 1) ((x11).toNatClampNeg)).toInt ∧ (rd M (k1 + 1) ((x11).toNatClampNeg)).toInt ≤ 9999 := h_M.at (bx_P (c := 1) hk1 (by omega))
        refine Sf.b (fun x12_41 e_x12_41 => ?_)
        have d_x12_41 := congrArg Int32.toInt e_x12_41
        have n_8 : ((1 : Int32)).toInt = 1 := rfl
        refine Sf.i (fun c_9 => ?_) (fun c_9 => ?_)
        · have c_9 := i_eq.mp c_9
          exact (sX2_walk_b75 hk0 hk1 h_M ⟨by omega, by omega⟩ ⟨by omega, by omega⟩ ⟨by omega, by omega⟩ ⟨by omega, by omega⟩ ⟨by omega, by omega⟩ ⟨by omega, by omega⟩ ⟨by omega, by omega⟩ ⟨by omega, by omega⟩ ⟨by omega, by omega⟩ (by omega) hih13 (by omega))
        · have c_9 := i_ne c_9
          have n_10 : ((3 : Int32)).toInt = 3 := rfl
          refine Sf.i (fun c_11 => ?_) (fun c_11 => ?_)
          · have c_11 := i_eq.mp c_11
            try have a_12 := i_neg (a := x12_41) (by omega)
            exact (sX2_walk_b75 hk0 hk1 h_M ⟨by omega, by omega⟩ ⟨by omega, by omega⟩ ⟨by omega, by omega⟩ ⟨by omega, by omega⟩ ⟨by omega, by omega⟩ ⟨by omega, by omega⟩ ⟨by omega, by omega⟩ ⟨by omega, by omega⟩ ⟨by omega, by omega⟩ (by omega) hih13 (by omega))
          · have c_11 := i_ne c_11
            have n_13 : ((0 : Int32)).toInt = 0 := rfl
            exact (sX2_walk_b75 hk0 hk1 h_M ⟨by omega, by omega⟩ ⟨by omega, by omega⟩ ⟨by omega, by omega⟩ ⟨by omega, by omega⟩ ⟨by omega, by omega⟩ ⟨by omega, by omega⟩ ⟨by omega, by omega⟩ ⟨by omega, by omega⟩ ⟨by omega, by omega⟩ (by omega) hih13 (by omega))
theorem sX2_walk_l13_n {f : Bx} {k0 : Nat} (hk0 : isL k0) {k1 : Nat} (hk1 : isP k1)   : ∀ (n : Nat) (x3 : Int32) (x5 : Int32) (x6 : Int32) (x7 : Int32) (x8 : Int32) (x9 : Int32) (x10 : Int32) (x11 : Int32) (M : Mem) (h_M : OKb f M) (hx3 : (-1 : Int) ≤ (x3).toInt ∧ (x3).toInt ≤ 1) (hx5 : (1 : Int) ≤ (x5).toInt ∧ (x5).toInt ≤ 3) (hx6 : (0 : Int) ≤ (x6).toInt ∧ (x6).toInt ≤ 255) (hx10 : (0 : Int) ≤ (x10).toInt ∧ (x10).toInt ≤ 3) (hx11 : (-1 : Int) ≤ (x11).toInt ∧ (x11).toInt ≤ 9)  (hr0 : ((x3).toInt = 1 ∨ (x3).toInt = -1))  (hmu : (if (x3).toInt = 1 then 10 - (x11).toInt else (x11).toInt + 2) < n), Sf (mX2_walk_l13 k0 k1 n x3 x5 x6 x7 x8 x9 x10 x11 M) (pM f) := by
  intro n
  induction n with
  | zero => intro x3 x5 x6 x7 x8 x9 x10 x11 M h_M hx3 hx5 hx6 hx10 hx11 hr0 hmu; exfalso; omega
  | succ n IH => intro x3 x5 x6 x7 x8 x9 x10 x11 M h_M hx3 hx5 hx6 hx10 hx11 hr0 hmu; exact sX2_walk_b13 hk0 hk1 h_M hx3 hx5 hx6 hx10 hx11  hr0  IH (by omega)
theorem sX2_walk_l13 {f : Bx} {k0 : Nat} (hk0 : isL k0) {k1 : Nat} (hk1 : isP k1) {x3 : Int32} {x5 : Int32} {x6 : Int32} {x7 : Int32} {x8 : Int32} {x9 : Int32} {x10 : Int32} {x11 : Int32} {M : Mem}  (h_M : OKb f M) (hx3 : (-1 : Int) ≤ (x3).toInt ∧ (x3).toInt ≤ 1) (hx5 : (1 : Int) ≤ (x5).toInt ∧ (x5).toInt ≤ 3) (hx6 : (0 : Int) ≤ (x6).toInt ∧ (x6).toInt ≤ 255) (hx10 : (0 : Int) ≤ (x10).toInt ∧ (x10).toInt ≤ 3) (hx11 : (-1 : Int) ≤ (x11).toInt ∧ (x11).toInt ≤ 9)  (hr0 : ((x3).toInt = 1 ∨ (x3).toInt = -1))  (hmu : (if (x3).toInt = 1 then 10 - (x11).toInt else (x11).toInt + 2) < 5000) : Sf (mX2_walk_l13 k0 k1 5000 x3 x5 x6 x7 x8 x9 x10 x11 M) (pM f) :=
  sX2_walk_l13_n hk0 hk1  5000 _ _ _ _ _ _ _ _ M h_M hx3 hx5 hx6 hx10 hx11  hr0  hmu
set_option maxHeartbeats 2000000 in
theorem sX2_walk {f : Bx} {k0 : Nat} {k1 : Nat} {x2 : Int32} {x3 : Int32} {x4 : Int32} {x5 : Int32} {x6 : Int32} {x7 : Int32} {M : Mem} (hk0 : isL k0) (hk1 : isP k1) (h_M : OKb f M) (hx2 : (0 : Int) ≤ (x2).toInt ∧ (x2).toInt ≤ 8) (hx3 : (-1 : Int) ≤ (x3).toInt ∧ (x3).toInt ≤ 1) (hx4 : (0 : Int) ≤ (x4).toInt ∧ (x4).toInt ≤ 3) (hx5 : (1 : Int) ≤ (x5).toInt ∧ (x5).toInt ≤ 3) (hx6 : (0 : Int) ≤ (x6).toInt ∧ (x6).toInt ≤ 255) (hxx : (x3).toInt = 1 ∨ (x3).toInt = -1) : Sf (mX2_walk k0 k1 x2 x3 x4 x5 x6 x7 M) (pM f) := by
  unfold mX2_walk
  exact (sX2_walk_l13 hk0 hk1 h_M ⟨by omega, by omega⟩ ⟨by omega, by omega⟩ ⟨by omega, by omega⟩ ⟨by omega, by omega⟩ ⟨by omega, by omega⟩ (by omega) (by omega))
set_option maxHeartbeats 2000000 in
theorem sX2_layFinished {f : Bx} {k0 : Nat} {k1 : Nat} {M : Mem} (hk0 : isL k0) (hk1 : isP k1) (h_M : OKb f M) : Sf (mX2_layFinished k0 k1 M) (pM f) := by
  unfold mX2_layFinished
  have b_1 : (0 : Int) ≤ (rd M k1 0).toInt ∧ (rd M k1 0).toInt ≤ 9 := h_M.at (bx_P0 hk1)
  have z_2 : (0 : Int) ≤ ((rd M k1 0)).toInt ∧ ((rd M k1 0)).toInt ≤ 9 := ⟨by omega, by omega⟩
  refine Sf.b (fun M1 e_M1 => ?_)
  have h_M1 : OKb f M1 := by rw [e_M1]; exact h_M.put (bx_L0 hk0) z_2
  refine Sf.c (sX1_allBends hk1 h_M1) (fun r4 p_3 => ?_)
  obtain ⟨p_3a, p_3b⟩ := p_3
  have n_4 : ((0 : Int32)).toInt = 0 := rfl
  have n_5 : ((1 : Int32)).toInt = 1 := rfl
  have n_6 : ((3 : Int32)).toInt = 3 := rfl
  have b_8 : (0 : Int) ≤ (rd M1 k1 2).toInt ∧ (rd M1 k1 2).toInt ≤ 255 := h_M1.at (bx_P0 hk1)
  refine Sf.m (sX2_walk hk0 hk1 h_M1 ⟨by omega, by omega⟩ ⟨by omega, by omega⟩ ⟨by omega, by omega⟩ ⟨by omega, by omega⟩ ⟨by omega, by omega⟩ (by omega)) (fun M8 _ h_M8 => ?_)
  have h_M8 : OKb f M8 := h_M8
  exact Sf.ok h_M8
set_option maxHeartbeats 2000000 in
theorem sX2_layStep_b27 {f : Bx} {k0 : Nat} {k1 : Nat} {x2 : Int32} {x3 : Int32} {x4 : Int32} {y0 : Int32} {M : Mem} (hk0 : isL k0) (hk1 : isP k1) (h_M : OKb f M) (hx2 : (0 : Int) ≤ (x2).toInt ∧ (x2).toInt ≤ 255) (hx3 : (0 : Int) ≤ (x3).toInt ∧ (x3).toInt ≤ 15) (hx4 : (0 : Int) ≤ (x4).toInt ∧ (x4).toInt ≤ 7) : Sf (mX2_layStep_b27 k0 k1 x2 x3 x4 y0 M) (pM f) := by
  unfold mX2_layStep_b27
  have b_1 : (0 : Int) ≤ (rd M k1 0).toInt ∧ (rd M k1 0).toInt ≤ 9 := h_M.at (bx_P0 hk1)
  have z_2 : (0 : Int) ≤ ((rd M k1 0)).toInt ∧ ((rd M k1 0)).toInt ≤ 9 := ⟨by omega, by omega⟩
  refine Sf.b (fun M6 e_M6 => ?_)
  have h_M6 : OKb f M6 := by rw [e_M6]; exact h_M.put (bx_L0 hk0) z_2
  have n_3 : ((1 : Int32)).toInt = 1 := rfl
  try have a_4 := i_and (a := x3) (b := (1 : Int32)) (by omega)
  try have a_5 := i_andr (a := x3) (b := (1 : Int32)) (by omega)
  have n_6 : ((0 : Int32)).toInt = 0 := rfl
  refine Sf.i (fun c_7 => ?_) (fun c_7 => ?_)
  · have c_7 := i_eq.mp c_7
    have n_8 : ((0 : Int32)).toInt = 0 := rfl
    have z_9 : (0 : Int) ≤ ((0 : Int32)).toInt ∧ ((0 : Int32)).toInt ≤ 8 := ⟨by omega, by omega⟩
    refine Sf.b (fun M19 e_M19 => ?_)
    have h_M19 : OKb f M19 := by rw [e_M19]; exact h_M6.put (bx_L0 hk0) z_9
    have z_10 : (-1 : Int) ≤ (x4).toInt ∧ (x4).toInt ≤ 8 := ⟨by omega, by omega⟩
    refine Sf.b (fun M21 e_M21 => ?_)
    have h_M21 : OKb f M21 := by rw [e_M21]; exact h_M19.put (bx_L0 hk0) z_10
    have n_11 : (((-1) : Int32)).toInt = -1 := rfl
    have n_12 : ((3 : Int32)).toInt = 3 := rfl
    refine Sf.m (sX2_walk hk0 hk1 h_M21 ⟨by omega, by omega⟩ ⟨by omega, by omega⟩ ⟨by omega, by omega⟩ ⟨by omega, by omega⟩ ⟨by omega, by omega⟩ (by omega)) (fun M25 _ h_M25 => ?_)
    have h_M25 : OKb f M25 := h_M25
    try have a_14 : ((x4 + (1 : Int32))).toInt = (x4).toInt + ((1 : Int32)).toInt := i_add (by omega) (by omega)
    refine Sf.m (sX2_walk hk0 hk1 h_M25 ⟨by omega, by omega⟩ ⟨by omega, by omega⟩ ⟨by omega, by omega⟩ ⟨by omega, by omega⟩ ⟨by omega, by omega⟩ (by omega)) (fun M28 _ h_M28 => ?_)
    have h_M28 : OKb f M28 := h_M28
    exact Sf.ok h_M28
  · have c_7 := i_ne c_7
    try have a_16 : ((x4 + (1 : Int32))).toInt = (x4).toInt + ((1 : Int32)).toInt := i_add (by omega) (by omega)
    have z_17 : (0 : Int) ≤ ((x4 + (1 : Int32))).toInt ∧ ((x4 + (1 : Int32))).toInt ≤ 8 := ⟨by omega, by omega⟩
    refine Sf.b (fun M9 e_M9 => ?_)
    have h_M9 : OKb f M9 := by rw [e_M9]; exact h_M6.put (bx_L0 hk0) z_17
    have w_18 : (rd M9 k0 6).toInt = (rd M6 k0 6).toInt := by rw [e_M9, rd_wj (by decide)]
    have w_19 : (rd M6 k0 6).toInt = ((rd M k1 0)).toInt := by rw [e_M6, rd_we]
    try have a_20 : (((rd M9 k0 6) - (1 : Int32))).toInt = ((rd M9 k0 6)).toInt - ((1 : Int32)).toInt := i_sub (by omega) (by omega)
    have z_21 : (-1 : Int) ≤ (((rd M9 k0 6) - (1 : Int32))).toInt ∧ (((rd M9 k0 6) - (1 : Int32))).toInt ≤ 8 := ⟨by omega, by omega⟩
    refine Sf.b (fun M11 e_M11 => ?_)
    have h_M11 : OKb f M11 := by rw [e_M11]; exact h_M9.put (bx_L0 hk0) z_21
    have n_22 : ((3 : Int32)).toInt = 3 := rfl
    refine Sf.m (sX2_walk hk0 hk1 h_M11 ⟨by omega, by omega⟩ ⟨by omega, by omega⟩ ⟨by omega, by omega⟩ ⟨by omega, by omega⟩ ⟨by omega, by omega⟩ (by omega)) (fun M15 _ h_M15 => ?_)
    have h_M15 : OKb f M15 := h_M15
    have n_24 : (((-1) : Int32)).toInt = -1 := rfl
    have n_25 : ((0 : Int32)).toInt = 0 := rfl
    refine Sf.m (sX2_walk hk0 hk1 h_M15 ⟨by omega, by omega⟩ ⟨by omega, by omega⟩ ⟨by omega, by omega⟩ ⟨by omega, by omega⟩ ⟨by omega, by omega⟩ (by omega)) (fun M18 _ h_M18 => ?_)
    have h_M18 : OKb f M18 := h_M18
    exact Sf.ok h_M18
set_option maxHeartbeats 2000000 in
theorem sX2_layStep {f : Bx} {k0 : Nat} {k1 : Nat} {x2 : Int32} {x3 : Int32} {M : Mem} (hk0 : isL k0) (hk1 : isP k1) (h_M : OKb f M) (hx2 : (0 : Int) ≤ (x2).toInt ∧ (x2).toInt ≤ 255) (hx3 : (0 : Int) ≤ (x3).toInt ∧ (x3).toInt ≤ 15) : Sf (mX2_layStep k0 k1 x2 x3 M) (pM f) := by
  unfold mX2_layStep
  try have a_1 := i_shr1 (a := x3)
  refine Sf.b (fun x4_3 e_x4_3 => ?_)
  have d_x4_3 := congrArg Int32.toInt e_x4_3
  refine Sf.c (sX1_goesUp hk1 h_M ⟨by omega, by omega⟩) (fun r3 p_2 => ?_)
  obtain ⟨p_2a, p_2b⟩ := p_2
  have n_3 : ((0 : Int32)).toInt = 0 := rfl
  refine Sf.i (fun c_4 => ?_) (fun c_4 => ?_)
  · have c_4 := i_eq.mp c_4
    exact (sX2_layStep_b27 hk0 hk1 h_M ⟨by omega, by omega⟩ ⟨by omega, by omega⟩ ⟨by omega, by omega⟩)
  · have c_4 := i_ne c_4
    exact (sX2_layStep_b27 hk0 hk1 h_M ⟨by omega, by omega⟩ ⟨by omega, by omega⟩ ⟨by omega, by omega⟩)
set_option maxHeartbeats 2000000 in
theorem sX2_isClamped {f : Bx} {k0 : Nat} {x1 : Int32} {M : Mem} (hk0 : isL k0) (h_M : OKb f M) (hx1 : (0 : Int) ≤ (x1).toInt ∧ (x1).toInt ≤ 8) : Sf (mX2_isClamped k0 x1 M) (pI (0) (1)) := by
  unfold mX2_isClamped
  have b_1 : (0 : Int) ≤ (rd M k0 7).toInt ∧ (rd M k0 7).toInt ≤ 8 := h_M.at (bx_L0 hk0)
  refine Sf.i (fun c_2 => ?_) (fun c_2 => ?_)
  · have c_2 := i_lt.mp c_2
    have n_3 : ((0 : Int32)).toInt = 0 := rfl
    have z_4 : (0 : Int) ≤ ((0 : Int32)).toInt ∧ ((0 : Int32)).toInt ≤ 1 := ⟨by omega, by omega⟩
    exact Sf.ok z_4
  · have c_2 := i_nlt c_2
    have b_5 : (-1 : Int) ≤ (rd M k0 8).toInt ∧ (rd M k0 8).toInt ≤ 8 := h_M.at (bx_L0 hk0)
    refine Sf.i (fun c_6 => ?_) (fun c_6 => ?_)
    · have c_6 := i_lt.mp c_6
      have n_7 : ((0 : Int32)).toInt = 0 := rfl
      have z_8 : (0 : Int) ≤ ((0 : Int32)).toInt ∧ ((0 : Int32)).toInt ≤ 1 := ⟨by omega, by omega⟩
      exact Sf.ok z_8
    · have c_6 := i_nlt c_6
      have n_9 : ((1 : Int32)).toInt = 1 := rfl
      have z_10 : (0 : Int) ≤ ((1 : Int32)).toInt ∧ ((1 : Int32)).toInt ≤ 1 := ⟨by omega, by omega⟩
      exact Sf.ok z_10
set_option maxHeartbeats 2000000 in
theorem sX2_reachToBack_b38 {f : Bx} {k0 : Nat} {M : Mem} {ih4 : Int32 → Int32 → Option Int32} {x1 : Int32} {x2 : Int32} {d4 : Nat} (hk0 : isL k0) (h_M : OKb f M) (hx1 : (0 : Int) ≤ (x1).toInt ∧ (x1).toInt ≤ 2147483647) (hx2 : (0 : Int) ≤ (x2).toInt ∧ (x2).toInt ≤ 8) (he0 : (1 : Int) ≤ (rd M k0 6).toInt ∧ (rd M k0 6).toInt ≤ 9) (hih4 : ∀ (yx1 : Int32) (yx2 : Int32), ((0 : Int) ≤ (yx1).toInt ∧ (yx1).toInt ≤ 2147483647) → ((0 : Int) ≤ (yx2).toInt ∧ (yx2).toInt ≤ 9) → 9 - (yx2).toInt < d4 → Sf (ih4 yx1 yx2) (pI (0) (2147483647))) (hmu4 : 9 - (x2).toInt ≤ d4) : Sf (mX2_reachToBack_b38 k0 M ih4 x1 x2) (pI (0) (2147483647)) := by
  unfold mX2_reachToBack_b38
  have n_1 : ((1 : Int32)).toInt = 1 := rfl
  try have a_2 : ((x2 + (1 : Int32))).toInt = (x2).toInt + ((1 : Int32)).toInt := i_add (by omega) (by omega)
  refine Sf.b (fun x2_38 e_x2_38 => ?_)
  have d_x2_38 := congrArg Int32.toInt e_x2_38
  have g_3 := i_rng x1
  exact (hih4 _ _ ⟨by omega, by omega⟩ ⟨by omega, by omega⟩ (by omega))
set_option maxHeartbeats 2000000 in
theorem sX2_reachToBack_b4 {f : Bx} {k0 : Nat} {M : Mem} {ih4 : Int32 → Int32 → Option Int32} {x1 : Int32} {x2 : Int32} {d4 : Nat} (hk0 : isL k0) (h_M : OKb f M) (hx1 : (0 : Int) ≤ (x1).toInt ∧ (x1).toInt ≤ 2147483647) (hx2 : (0 : Int) ≤ (x2).toInt ∧ (x2).toInt ≤ 9) (hih4 : ∀ (yx1 : Int32) (yx2 : Int32), ((0 : Int) ≤ (yx1).toInt ∧ (yx1).toInt ≤ 2147483647) → ((0 : Int) ≤ (yx2).toInt ∧ (yx2).toInt ≤ 9) → 9 - (yx2).toInt < d4 → Sf (ih4 yx1 yx2) (pI (0) (2147483647))) (hmu4 : 9 - (x2).toInt ≤ d4) : Sf (mX2_reachToBack_b4 k0 M ih4 x1 x2) (pI (0) (2147483647)) := by
  unfold mX2_reachToBack_b4
  have b_1 : (0 : Int) ≤ (rd M k0 6).toInt ∧ (rd M k0 6).toInt ≤ 9 := h_M.at (bx_L0 hk0)
  refine Sf.i (fun c_2 => ?_) (fun c_2 => ?_)
  · have c_2 := i_le.mp c_2
    have z_3 : (0 : Int) ≤ (x1).toInt ∧ (x1).toInt ≤ 2147483647 := ⟨by omega, by omega⟩
    exact Sf.ok z_3
  · have c_2 := i_nle c_2
    have n_4 : ((9 : Int32)).toInt = 9 := rfl
    refine Sf.i (fun c_5 => ?_) (fun c_5 => ?_)
    · have c_5 := i_le.mp c_5
      exfalso; omega
    · have c_5 := i_nle c_5
      refine Sf.c (sX2_isClamped hk0 h_M ⟨by omega, by omega⟩) (fun r4 p_6 => ?_)
      obtain ⟨p_6a, p_6b⟩ := p_6
      have n_7 : ((0 : Int32)).toInt = 0 := rfl
      refine Sf.i (fun c_8 => ?_) (fun c_8 => ?_)
      · have c_8 := i_eq.mp c_8
        have g_9 := i_rng x1
        exact (sX2_reachToBack_b38 hk0 h_M ⟨by omega, by omega⟩ ⟨by omega, by omega⟩ ⟨by omega, by omega⟩ hih4 (by omega))
      · have c_8 := i_ne c_8
        refine Sf.k (ok_in (by omega) (by omega)) ?_
        have m_10 := i_max (a := x1) (b := (-(rd M (k0 + 1) ((x2).toNatClampNeg))))
        refine Sf.b (fun x1_37 e_x1_37 => ?_)
        have d_x1_37 := congrArg Int32.toInt e_x1_37
        have g_11 := i_rng x1_37
        exact (sX2_reachToBack_b38 hk0 h_M ⟨by omega, by omega⟩ ⟨by omega, by omega⟩ ⟨by omega, by omega⟩ hih4 (by omega))
theorem sX2_reachToBack_l4_n {f : Bx} {k0 : Nat} (hk0 : isL k0) {M : Mem}  (h_M : OKb f M)   : ∀ (n : Nat) (x1 : Int32) (x2 : Int32) (hx1 : (0 : Int) ≤ (x1).toInt ∧ (x1).toInt ≤ 2147483647) (hx2 : (0 : Int) ≤ (x2).toInt ∧ (x2).toInt ≤ 9)   (hmu : 9 - (x2).toInt < n), Sf (mX2_reachToBack_l4 k0 M n x1 x2) (pI (0) (2147483647)) := by
  intro n
  induction n with
  | zero => intro x1 x2 hx1 hx2 hmu; exfalso; omega
  | succ n IH => intro x1 x2 hx1 hx2 hmu; exact sX2_reachToBack_b4 hk0 h_M hx1 hx2    IH (by omega)
theorem sX2_reachToBack_l4 {f : Bx} {k0 : Nat} (hk0 : isL k0) {M : Mem} {x1 : Int32} {x2 : Int32}  (h_M : OKb f M) (hx1 : (0 : Int) ≤ (x1).toInt ∧ (x1).toInt ≤ 2147483647) (hx2 : (0 : Int) ≤ (x2).toInt ∧ (x2).toInt ≤ 9)    (hmu : 9 - (x2).toInt < 5000) : Sf (mX2_reachToBack_l4 k0 M 5000 x1 x2) (pI (0) (2147483647)) :=
  sX2_reachToBack_l4_n hk0 h_M   5000 _ _ hx1 hx2   hmu
set_option maxHeartbeats 2000000 in
theorem sX2_reachToBack {f : Bx} {k0 : Nat} {M : Mem} (hk0 : isL k0) (h_M : OKb f M) : Sf (mX2_reachToBack k0 M) (pI (0) (2147483647)) := by
  unfold mX2_reachToBack
  have n_1 : ((0 : Int32)).toInt = 0 := rfl
  have g_2 := i_rng (0 : Int32)
  exact (sX2_reachToBack_l4 hk0 h_M ⟨by omega, by omega⟩ ⟨by omega, by omega⟩ (by omega))
set_option maxHeartbeats 2000000 in
theorem sX2_topOfFreeSide_b37 {f : Bx} {k0 : Nat} {M : Mem} {ih4 : Int32 → Int32 → Option Int32} {x1 : Int32} {x2 : Int32} {d4 : Nat} (hk0 : isL k0) (h_M : OKb f M) (hx1 : (0 : Int) ≤ (x1).toInt ∧ (x1).toInt ≤ 2147483647) (hx2 : (0 : Int) ≤ (x2).toInt ∧ (x2).toInt ≤ 8) (he0 : (1 : Int) ≤ (rd M k0 6).toInt ∧ (rd M k0 6).toInt ≤ 9) (hih4 : ∀ (yx1 : Int32) (yx2 : Int32), ((0 : Int) ≤ (yx1).toInt ∧ (yx1).toInt ≤ 2147483647) → ((0 : Int) ≤ (yx2).toInt ∧ (yx2).toInt ≤ 9) → 9 - (yx2).toInt < d4 → Sf (ih4 yx1 yx2) (pI (0) (2147483647))) (hmu4 : 9 - (x2).toInt ≤ d4) : Sf (mX2_topOfFreeSide_b37 k0 M ih4 x1 x2) (pI (0) (2147483647)) := by
  unfold mX2_topOfFreeSide_b37
  have n_1 : ((1 : Int32)).toInt = 1 := rfl
  try have a_2 : ((x2 + (1 : Int32))).toInt = (x2).toInt + ((1 : Int32)).toInt := i_add (by omega) (by omega)
  refine Sf.b (fun x2_37 e_x2_37 => ?_)
  have d_x2_37 := congrArg Int32.toInt e_x2_37
  have g_3 := i_rng x1
  exact (hih4 _ _ ⟨by omega, by omega⟩ ⟨by omega, by omega⟩ (by omega))
set_option maxHeartbeats 2000000 in
theorem sX2_topOfFreeSide_b4 {f : Bx} {k0 : Nat} {M : Mem} {ih4 : Int32 → Int32 → Option Int32} {x1 : Int32} {x2 : Int32} {d4 : Nat} (hk0 : isL k0) (h_M : OKb f M) (hx1 : (0 : Int) ≤ (x1).toInt ∧ (x1).toInt ≤ 2147483647) (hx2 : (0 : Int) ≤ (x2).toInt ∧ (x2).toInt ≤ 9) (hih4 : ∀ (yx1 : Int32) (yx2 : Int32), ((0 : Int) ≤ (yx1).toInt ∧ (yx1).toInt ≤ 2147483647) → ((0 : Int) ≤ (yx2).toInt ∧ (yx2).toInt ≤ 9) → 9 - (yx2).toInt < d4 → Sf (ih4 yx1 yx2) (pI (0) (2147483647))) (hmu4 : 9 - (x2).toInt ≤ d4) : Sf (mX2_topOfFreeSide_b4 k0 M ih4 x1 x2) (pI (0) (2147483647)) := by
  unfold mX2_topOfFreeSide_b4
  have b_1 : (0 : Int) ≤ (rd M k0 6).toInt ∧ (rd M k0 6).toInt ≤ 9 := h_M.at (bx_L0 hk0)
  refine Sf.i (fun c_2 => ?_) (fun c_2 => ?_)
  · have c_2 := i_le.mp c_2
    have z_3 : (0 : Int) ≤ (x1).toInt ∧ (x1).toInt ≤ 2147483647 := ⟨by omega, by omega⟩
    exact Sf.ok z_3
  · have c_2 := i_nle c_2
    have n_4 : ((9 : Int32)).toInt = 9 := rfl
    refine Sf.i (fun c_5 => ?_) (fun c_5 => ?_)
    · have c_5 := i_le.mp c_5
      exfalso; omega
    · have c_5 := i_nle c_5
      refine Sf.c (sX2_isClamped hk0 h_M ⟨by omega, by omega⟩) (fun r4 p_6 => ?_)
      obtain ⟨p_6a, p_6b⟩ := p_6
      have n_7 : ((0 : Int32)).toInt = 0 := rfl
      refine Sf.i (fun c_8 => ?_) (fun c_8 => ?_)
      · have c_8 := i_eq.mp c_8
        refine Sf.k (ok_in (by omega) (by omega)) ?_
        have m_9 := i_max (a := x1) (b := (rd M (k0 + 2) ((x2).toNatClampNeg)))
        refine Sf.b (fun x1_36 e_x1_36 => ?_)
        have d_x1_36 := congrArg Int32.toInt e_x1_36
        have g_10 := i_rng x1_36
        exact (sX2_topOfFreeSide_b37 hk0 h_M ⟨by omega, by omega⟩ ⟨by omega, by omega⟩ ⟨by omega, by omega⟩ hih4 (by omega))
      · have c_8 := i_ne c_8
        have g_11 := i_rng x1
        exact (sX2_topOfFreeSide_b37 hk0 h_M ⟨by omega, by omega⟩ ⟨by omega, by omega⟩ ⟨by omega, by omega⟩ hih4 (by omega))
theorem sX2_topOfFreeSide_l4_n {f : Bx} {k0 : Nat} (hk0 : isL k0) {M : Mem}  (h_M : OKb f M)   : ∀ (n : Nat) (x1 : Int32) (x2 : Int32) (hx1 : (0 : Int) ≤ (x1).toInt ∧ (x1).toInt ≤ 2147483647) (hx2 : (0 : Int) ≤ (x2).toInt ∧ (x2).toInt ≤ 9)   (hmu : 9 - (x2).toInt < n), Sf (mX2_topOfFreeSide_l4 k0 M n x1 x2) (pI (0) (2147483647)) := by
  intro n
  induction n with
  | zero => intro x1 x2 hx1 hx2 hmu; exfalso; omega
  | succ n IH => intro x1 x2 hx1 hx2 hmu; exact sX2_topOfFreeSide_b4 hk0 h_M hx1 hx2    IH (by omega)
theorem sX2_topOfFreeSide_l4 {f : Bx} {k0 : Nat} (hk0 : isL k0) {M : Mem} {x1 : Int32} {x2 : Int32}  (h_M : OKb f M) (hx1 : (0 : Int) ≤ (x1).toInt ∧ (x1).toInt ≤ 2147483647) (hx2 : (0 : Int) ≤ (x2).toInt ∧ (x2).toInt ≤ 9)    (hmu : 9 - (x2).toInt < 5000) : Sf (mX2_topOfFreeSide_l4 k0 M 5000 x1 x2) (pI (0) (2147483647)) :=
  sX2_topOfFreeSide_l4_n hk0 h_M   5000 _ _ hx1 hx2   hmu
set_option maxHeartbeats 2000000 in
theorem sX2_topOfFreeSide {f : Bx} {k0 : Nat} {M : Mem} (hk0 : isL k0) (h_M : OKb f M) : Sf (mX2_topOfFreeSide k0 M) (pI (0) (2147483647)) := by
  unfold mX2_topOfFreeSide
  have n_1 : ((0 : Int32)).toInt = 0 := rfl
  have g_2 := i_rng (0 : Int32)
  exact (sX2_topOfFreeSide_l4 hk0 h_M ⟨by omega, by omega⟩ ⟨by omega, by omega⟩ (by omega))
set_option maxHeartbeats 2000000 in
theorem sX2_enters {f : Bx} {k0 : Nat} {x1 : Int32} {x2 : Int32} {x3 : Int32} {x4 : Int32} {x5 : Int32} {M : Mem} (hk0 : isL k0) (h_M : OKb f M) (hx1 : (0 : Int) ≤ (x1).toInt ∧ (x1).toInt ≤ 8) : Sf (mX2_enters k0 x1 x2 x3 x4 x5 M) (pI (0) (1)) := by
  unfold mX2_enters
  refine Sf.i (fun c_1 => ?_) (fun c_1 => ?_)
  · have c_1 := i_le.mp c_1
    have n_2 : ((0 : Int32)).toInt = 0 := rfl
    have z_3 : (0 : Int) ≤ ((0 : Int32)).toInt ∧ ((0 : Int32)).toInt ≤ 1 := ⟨by omega, by omega⟩
    exact Sf.ok z_3
  · have c_1 := i_nle c_1
    refine Sf.i (fun c_4 => ?_) (fun c_4 => ?_)
    · have c_4 := i_lt.mp c_4
      refine Sf.k (ok_in (by omega) (by omega)) ?_
      refine Sf.i (fun c_5 => ?_) (fun c_5 => ?_)
      · have c_5 := i_le.mp c_5
        have n_6 : ((0 : Int32)).toInt = 0 := rfl
        have z_7 : (0 : Int) ≤ ((0 : Int32)).toInt ∧ ((0 : Int32)).toInt ≤ 1 := ⟨by omega, by omega⟩
        exact Sf.ok z_7
      · have c_5 := i_nle c_5
        refine Sf.k (ok_in (by omega) (by omega)) ?_
        refine Sf.i (fun c_8 => ?_) (fun c_8 => ?_)
        · have c_8 := i_le.mp c_8
          have n_9 : ((0 : Int32)).toInt = 0 := rfl
          have z_10 : (0 : Int) ≤ ((0 : Int32)).toInt ∧ ((0 : Int32)).toInt ≤ 1 := ⟨by omega, by omega⟩
          exact Sf.ok z_10
        · have c_8 := i_nle c_8
          refine Sf.k (ok_in (by omega) (by omega)) ?_
          refine Sf.i (fun c_11 => ?_) (fun c_11 => ?_)
          · have c_11 := i_le.mp c_11
            have n_12 : ((0 : Int32)).toInt = 0 := rfl
            have z_13 : (0 : Int) ≤ ((0 : Int32)).toInt ∧ ((0 : Int32)).toInt ≤ 1 := ⟨by omega, by omega⟩
            exact Sf.ok z_13
          · have c_11 := i_nle c_11
            refine Sf.k (ok_in (by omega) (by omega)) ?_
            refine Sf.i (fun c_14 => ?_) (fun c_14 => ?_)
            · have c_14 := i_le.mp c_14
              have n_15 : ((0 : Int32)).toInt = 0 := rfl
              have z_16 : (0 : Int) ≤ ((0 : Int32)).toInt ∧ ((0 : Int32)).toInt ≤ 1 := ⟨by omega, by omega⟩
              exact Sf.ok z_16
            · have c_14 := i_nle c_14
              have n_17 : ((1 : Int32)).toInt = 1 := rfl
              have z_18 : (0 : Int) ≤ ((1 : Int32)).toInt ∧ ((1 : Int32)).toInt ≤ 1 := ⟨by omega, by omega⟩
              exact Sf.ok z_18
    · have c_4 := i_nlt c_4
      have n_19 : ((0 : Int32)).toInt = 0 := rfl
      have z_20 : (0 : Int) ≤ ((0 : Int32)).toInt ∧ ((0 : Int32)).toInt ≤ 1 := ⟨by omega, by omega⟩
      exact Sf.ok z_20
set_option maxHeartbeats 2000000 in
theorem sX2_legsHitting_b108 {f : Bx} {k0 : Nat} {k1 : Nat} {M : Mem} {ih10 : Int32 → Int32 → Option Int32} {x3 : Int32} {x4 : Int32} {d10 : Nat} (hk0 : isL k0) (hk1 : isP k1) (h_M : OKb f M) (hx3 : (0 : Int) ≤ (x3).toInt ∧ (x3).toInt ≤ 4095) (hx4 : (0 : Int) ≤ (x4).toInt ∧ (x4).toInt ≤ 8) (he0 : (1 : Int) ≤ (rd M k0 6).toInt ∧ (rd M k0 6).toInt ≤ 9) (hih10 : ∀ (yx3 : Int32) (yx4 : Int32), ((0 : Int) ≤ (yx3).toInt ∧ (yx3).toInt ≤ 4095) → ((0 : Int) ≤ (yx4).toInt ∧ (yx4).toInt ≤ 9) → 9 - (yx4).toInt < d10 → Sf (ih10 yx3 yx4) (pI (0) (4095))) (hmu10 : 9 - (x4).toInt ≤ d10) : Sf (mX2_legsHitting_b108 k0 k1 M ih10 x3 x4) (pI (0) (4095)) := by
  unfold mX2_legsHitting_b108
  have n_1 : ((1 : Int32)).toInt = 1 := rfl
  try have a_2 : ((x4 + (1 : Int32))).toInt = (x4).toInt + ((1 : Int32)).toInt := i_add (by omega) (by omega)
  refine Sf.b (fun x4_108 e_x4_108 => ?_)
  have d_x4_108 := congrArg Int32.toInt e_x4_108
  exact (hih10 _ _ ⟨by omega, by omega⟩ ⟨by omega, by omega⟩ (by omega))
set_option maxHeartbeats 2000000 in
theorem sX2_legsHitting_b94 {f : Bx} {k0 : Nat} {k1 : Nat} {M : Mem} {ih10 : Int32 → Int32 → Option Int32} {x3 : Int32} {x4 : Int32} {y0 : Int32} {d10 : Nat} (hk0 : isL k0) (hk1 : isP k1) (h_M : OKb f M) (hx3 : (0 : Int) ≤ (x3).toInt ∧ (x3).toInt ≤ 4095) (hx4 : (0 : Int) ≤ (x4).toInt ∧ (x4).toInt ≤ 8) (hy0 : (0 : Int) ≤ (y0).toInt ∧ (y0).toInt ≤ 1) (he0 : (1 : Int) ≤ (rd M k0 6).toInt ∧ (rd M k0 6).toInt ≤ 9) (hih10 : ∀ (yx3 : Int32) (yx4 : Int32), ((0 : Int) ≤ (yx3).toInt ∧ (yx3).toInt ≤ 4095) → ((0 : Int) ≤ (yx4).toInt ∧ (yx4).toInt ≤ 9) → 9 - (yx4).toInt < d10 → Sf (ih10 yx3 yx4) (pI (0) (4095))) (hmu10 : 9 - (x4).toInt ≤ d10) : Sf (mX2_legsHitting_b94 k0 k1 M ih10 x3 x4 y0) (pI (0) (4095)) := by
  unfold mX2_legsHitting_b94
  have n_1 : ((0 : Int32)).toInt = 0 := rfl
  refine Sf.i (fun c_2 => ?_) (fun c_2 => ?_)
  · have c_2 := i_eq.mp c_2
    have b_3 : (0 : Int) ≤ (rd M k0 6).toInt ∧ (rd M k0 6).toInt ≤ 9 := h_M.at (bx_L0 hk0)
    exact (sX2_legsHitting_b108 hk0 hk1 h_M ⟨by omega, by omega⟩ ⟨by omega, by omega⟩ ⟨by omega, by omega⟩ hih10 (by omega))
  · have c_2 := i_ne c_2
    try have a_4 : 0 < (((1 : Int32) <<< (x4 &&& 31))).toInt ∧ (((1 : Int32) <<< (x4 &&& 31))).toInt ≤ 256 := i_shl 8 (by decide) ⟨by omega, by omega⟩
    try have a_5 : 0 ≤ ((x3 ||| ((1 : Int32) <<< (x4 &&& 31)))).toInt ∧ ((x3 ||| ((1 : Int32) <<< (x4 &&& 31)))).toInt < 4096 := i_or 12 (by decide) ⟨by omega, by omega⟩ ⟨by omega, by omega⟩
    refine Sf.b (fun x3_107 e_x3_107 => ?_)
    have d_x3_107 := congrArg Int32.toInt e_x3_107
    have b_6 : (0 : Int) ≤ (rd M k0 6).toInt ∧ (rd M k0 6).toInt ≤ 9 := h_M.at (bx_L0 hk0)
    exact (sX2_legsHitting_b108 hk0 hk1 h_M ⟨by omega, by omega⟩ ⟨by omega, by omega⟩ ⟨by omega, by omega⟩ hih10 (by omega))
set_option maxHeartbeats 2000000 in
theorem sX2_legsHitting_b89 {f : Bx} {k0 : Nat} {k1 : Nat} {M : Mem} {ih10 : Int32 → Int32 → Option Int32} {x3 : Int32} {x4 : Int32} {d10 : Nat} (hk0 : isL k0) (hk1 : isP k1) (h_M : OKb f M) (hx3 : (0 : Int) ≤ (x3).toInt ∧ (x3).toInt ≤ 4095) (hx4 : (0 : Int) ≤ (x4).toInt ∧ (x4).toInt ≤ 8) (he0 : (1 : Int) ≤ (rd M k0 6).toInt ∧ (rd M k0 6).toInt ≤ 9) (hih10 : ∀ (yx3 : Int32) (yx4 : Int32), ((0 : Int) ≤ (yx3).toInt ∧ (yx3).toInt ≤ 4095) → ((0 : Int) ≤ (yx4).toInt ∧ (yx4).toInt ≤ 9) → 9 - (yx4).toInt < d10 → Sf (ih10 yx3 yx4) (pI (0) (4095))) (hmu10 : 9 - (x4).toInt ≤ d10) : Sf (mX2_legsHitting_b89 k0 k1 M ih10 x3 x4) (pI (0) (4095)) := by
  unfold mX2_legsHitting_b89
  have n_1 : ((1 : Int32)).toInt = 1 := rfl
  have b_2 : (0 : Int) ≤ (rd M k0 6).toInt ∧ (rd M k0 6).toInt ≤ 9 := h_M.at (bx_L0 hk0)
  exact (sX2_legsHitting_b94 hk0 hk1 h_M ⟨by omega, by omega⟩ ⟨by omega, by omega⟩ ⟨by omega, by omega⟩ ⟨by omega, by omega⟩ hih10 (by omega))
set_option maxHeartbeats 2000000 in
theorem sX2_legsHitting_b93 {f : Bx} {k0 : Nat} {k1 : Nat} {M : Mem} {ih10 : Int32 → Int32 → Option Int32} {x3 : Int32} {x4 : Int32} {d10 : Nat} (hk0 : isL k0) (hk1 : isP k1) (h_M : OKb f M) (hx3 : (0 : Int) ≤ (x3).toInt ∧ (x3).toInt ≤ 4095) (hx4 : (0 : Int) ≤ (x4).toInt ∧ (x4).toInt ≤ 8) (he0 : (1 : Int) ≤ (rd M k0 6).toInt ∧ (rd M k0 6).toInt ≤ 9) (hih10 : ∀ (yx3 : Int32) (yx4 : Int32), ((0 : Int) ≤ (yx3).toInt ∧ (yx3).toInt ≤ 4095) → ((0 : Int) ≤ (yx4).toInt ∧ (yx4).toInt ≤ 9) → 9 - (yx4).toInt < d10 → Sf (ih10 yx3 yx4) (pI (0) (4095))) (hmu10 : 9 - (x4).toInt ≤ d10) : Sf (mX2_legsHitting_b93 k0 k1 M ih10 x3 x4) (pI (0) (4095)) := by
  unfold mX2_legsHitting_b93
  have n_1 : ((0 : Int32)).toInt = 0 := rfl
  have b_2 : (0 : Int) ≤ (rd M k0 6).toInt ∧ (rd M k0 6).toInt ≤ 9 := h_M.at (bx_L0 hk0)
  exact (sX2_legsHitting_b94 hk0 hk1 h_M ⟨by omega, by omega⟩ ⟨by omega, by omega⟩ ⟨by omega, by omega⟩ ⟨by omega, by omega⟩ hih10 (by omega))
set_option maxHeartbeats 2000000 in
theorem sX2_legsHitting_b10 {f : Bx} {k0 : Nat} {k1 : Nat} {M : Mem} {ih10 : Int32 → Int32 → Option Int32} {x3 : Int32} {x4 : Int32} {d10 : Nat} (hk0 : isL k0) (hk1 : isP k1) (h_M : OKb f M) (hx3 : (0 : Int) ≤ (x3).toInt ∧ (x3).toInt ≤ 4095) (hx4 : (0 : Int) ≤ (x4).toInt ∧ (x4).toInt ≤ 9) (hih10 : ∀ (yx3 : Int32) (yx4 : Int32), ((0 : Int) ≤ (yx3).toInt ∧ (yx3).toInt ≤ 4095) → ((0 : Int) ≤ (yx4).toInt ∧ (yx4).toInt ≤ 9) → 9 - (yx4).toInt < d10 → Sf (ih10 yx3 yx4) (pI (0) (4095))) (hmu10 : 9 - (x4).toInt ≤ d10) : Sf (mX2_legsHitting_b10 k0 k1 M ih10 x3 x4) (pI (0) (4095)) := by
  unfold mX2_legsHitting_b10
  have b_1 : (0 : Int) ≤ (rd M k0 6).toInt ∧ (rd M k0 6).toInt ≤ 9 := h_M.at (bx_L0 hk0)
  refine Sf.i (fun c_2 => ?_) (fun c_2 => ?_)
  · have c_2 := i_le.mp c_2
    have z_3 : (0 : Int) ≤ (x3).toInt ∧ (x3).toInt ≤ 4095 := ⟨by omega, by omega⟩
    exact Sf.ok z_3
  · have c_2 := i_nle c_2
    have n_4 : ((9 : Int32)).toInt = 9 := rfl
    refine Sf.i (fun c_5 => ?_) (fun c_5 => ?_)
    · have c_5 := i_le.mp c_5
      exfalso; omega
    · have c_5 := i_nle c_5
      have n_6 : ((0 : Int32)).toInt = 0 := rfl
      refine Sf.k (ok_in (by omega) (by omega)) ?_
      have n_7 : ((1 : Int32)).toInt = 1 := rfl
      refine Sf.k (ok_in (by omega) (by omega)) ?_
      refine Sf.c (sX2_enters hk0 h_M ⟨by omega, by omega⟩) (fun r6 p_8 => ?_)
      obtain ⟨p_8a, p_8b⟩ := p_8
      have n_9 : ((0 : Int32)).toInt = 0 := rfl
      refine Sf.i (fun c_10 => ?_) (fun c_10 => ?_)
      · have c_10 := i_eq.mp c_10
        have n_11 : ((2 : Int32)).toInt = 2 := rfl
        refine Sf.k (ok_in (by omega) (by omega)) ?_
        have n_12 : ((3 : Int32)).toInt = 3 := rfl
        refine Sf.k (ok_in (by omega) (by omega)) ?_
        refine Sf.c (sX2_enters hk0 h_M ⟨by omega, by omega⟩) (fun r15 p_13 => ?_)
        obtain ⟨p_13a, p_13b⟩ := p_13
        refine Sf.i (fun c_14 => ?_) (fun c_14 => ?_)
        · have c_14 := i_eq.mp c_14
          refine Sf.c (sX2_isClamped hk0 h_M ⟨by omega, by omega⟩) (fun r19 p_15 => ?_)
          obtain ⟨p_15a, p_15b⟩ := p_15
          refine Sf.i (fun c_16 => ?_) (fun c_16 => ?_)
          · have c_16 := i_eq.mp c_16
            have n_17 : ((4 : Int32)).toInt = 4 := rfl
            refine Sf.k (ok_in (by omega) (by omega)) ?_
            have n_18 : ((5 : Int32)).toInt = 5 := rfl
            refine Sf.k (ok_in (by omega) (by omega)) ?_
            refine Sf.c (sX2_enters hk0 h_M ⟨by omega, by omega⟩) (fun r25 p_19 => ?_)
            obtain ⟨p_19a, p_19b⟩ := p_19
            refine Sf.i (fun c_20 => ?_) (fun c_20 => ?_)
            · have c_20 := i_eq.mp c_20
              exact (sX2_legsHitting_b93 hk0 hk1 h_M ⟨by omega, by omega⟩ ⟨by omega, by omega⟩ ⟨by omega, by omega⟩ hih10 (by omega))
            · have c_20 := i_ne c_20
              exact (sX2_legsHitting_b89 hk0 hk1 h_M ⟨by omega, by omega⟩ ⟨by omega, by omega⟩ ⟨by omega, by omega⟩ hih10 (by omega))
          · have c_16 := i_ne c_16
            exact (sX2_legsHitting_b93 hk0 hk1 h_M ⟨by omega, by omega⟩ ⟨by omega, by omega⟩ ⟨by omega, by omega⟩ hih10 (by omega))
        · have c_14 := i_ne c_14
          exact (sX2_legsHitting_b89 hk0 hk1 h_M ⟨by omega, by omega⟩ ⟨by omega, by omega⟩ ⟨by omega, by omega⟩ hih10 (by omega))
      · have c_10 := i_ne c_10
        exact (sX2_legsHitting_b89 hk0 hk1 h_M ⟨by omega, by omega⟩ ⟨by omega, by omega⟩ ⟨by omega, by omega⟩ hih10 (by omega))
theorem sX2_legsHitting_l10_n {f : Bx} {k0 : Nat} (hk0 : isL k0) {k1 : Nat} (hk1 : isP k1) {M : Mem}  (h_M : OKb f M)   : ∀ (n : Nat) (x3 : Int32) (x4 : Int32) (hx3 : (0 : Int) ≤ (x3).toInt ∧ (x3).toInt ≤ 4095) (hx4 : (0 : Int) ≤ (x4).toInt ∧ (x4).toInt ≤ 9)   (hmu : 9 - (x4).toInt < n), Sf (mX2_legsHitting_l10 k0 k1 M n x3 x4) (pI (0) (4095)) := by
  intro n
  induction n with
  | zero => intro x3 x4 hx3 hx4 hmu; exfalso; omega
  | succ n IH => intro x3 x4 hx3 hx4 hmu; exact sX2_legsHitting_b10 hk0 hk1 h_M hx3 hx4    IH (by omega)
theorem sX2_legsHitting_l10 {f : Bx} {k0 : Nat} (hk0 : isL k0) {k1 : Nat} (hk1 : isP k1) {M : Mem} {x3 : Int32} {x4 : Int32}  (h_M : OKb f M) (hx3 : (0 : Int) ≤ (x3).toInt ∧ (x3).toInt ≤ 4095) (hx4 : (0 : Int) ≤ (x4).toInt ∧ (x4).toInt ≤ 9)    (hmu : 9 - (x4).toInt < 5000) : Sf (mX2_legsHitting_l10 k0 k1 M 5000 x3 x4) (pI (0) (4095)) :=
  sX2_legsHitting_l10_n hk0 hk1 h_M   5000 _ _ hx3 hx4   hmu
set_option maxHeartbeats 2000000 in
theorem sX2_legsHitting {f : Bx} {k0 : Nat} {k1 : Nat} {M : Mem} (hk0 : isL k0) (hk1 : isP k1) (h_M : OKb f M) : Sf (mX2_legsHitting k0 k1 M) (pI (0) (4095)) := by
  unfold mX2_legsHitting
  have n_1 : ((0 : Int32)).toInt = 0 := rfl
  exact (sX2_legsHitting_l10 hk0 hk1 h_M ⟨by omega, by omega⟩ ⟨by omega, by omega⟩ (by omega))
set_option maxHeartbeats 2000000 in
theorem sX2_touch {f : Bx} {k0 : Nat} {x1 : Int32} {x2 : Int32} {M : Mem} (hk0 : isL k0) (h_M : OKb f M) (hx1 : (2 : Int) ≤ (x1).toInt ∧ (x1).toInt ≤ 8) (hx2 : (0 : Int) ≤ (x2).toInt ∧ (x2).toInt ≤ 6) : Sf (mX2_touch k0 x1 x2 M) (pI (0) (1)) := by
  unfold mX2_touch
  refine Sf.k (ok_in (by omega) (by omega)) ?_
  refine Sf.k (ok_in (by omega) (by omega)) ?_
  refine Sf.i (fun c_1 => ?_) (fun c_1 => ?_)
  · have c_1 := i_lt.mp c_1
    have n_2 : ((0 : Int32)).toInt = 0 := rfl
    have z_3 : (0 : Int) ≤ ((0 : Int32)).toInt ∧ ((0 : Int32)).toInt ≤ 1 := ⟨by omega, by omega⟩
    exact Sf.ok z_3
  · have c_1 := i_nlt c_1
    refine Sf.k (ok_in (by omega) (by omega)) ?_
    refine Sf.k (ok_in (by omega) (by omega)) ?_
    refine Sf.i (fun c_4 => ?_) (fun c_4 => ?_)
    · have c_4 := i_lt.mp c_4
      have n_5 : ((0 : Int32)).toInt = 0 := rfl
      have z_6 : (0 : Int) ≤ ((0 : Int32)).toInt ∧ ((0 : Int32)).toInt ≤ 1 := ⟨by omega, by omega⟩
      exact Sf.ok z_6
    · have c_4 := i_nlt c_4
      refine Sf.k (ok_in (by omega) (by omega)) ?_
      refine Sf.k (ok_in (by omega) (by omega)) ?_
      refine Sf.i (fun c_7 => ?_) (fun c_7 => ?_)
      · have c_7 := i_lt.mp c_7
        have n_8 : ((0 : Int32)).toInt = 0 := rfl
        have z_9 : (0 : Int) ≤ ((0 : Int32)).toInt ∧ ((0 : Int32)).toInt ≤ 1 := ⟨by omega, by omega⟩
        exact Sf.ok z_9
      · have c_7 := i_nlt c_7
        refine Sf.k (ok_in (by omega) (by omega)) ?_
        refine Sf.k (ok_in (by omega) (by omega)) ?_
        refine Sf.i (fun c_10 => ?_) (fun c_10 => ?_)
        · have c_10 := i_lt.mp c_10
          have n_11 : ((0 : Int32)).toInt = 0 := rfl
          have z_12 : (0 : Int) ≤ ((0 : Int32)).toInt ∧ ((0 : Int32)).toInt ≤ 1 := ⟨by omega, by omega⟩
          exact Sf.ok z_12
        · have c_10 := i_nlt c_10
          have n_13 : ((1 : Int32)).toInt = 1 := rfl
          have z_14 : (0 : Int) ≤ ((1 : Int32)).toInt ∧ ((1 : Int32)).toInt ≤ 1 := ⟨by omega, by omega⟩
          exact Sf.ok z_14
set_option maxHeartbeats 2000000 in
theorem sX2_crossesItself_b18 {f : Bx} {k0 : Nat} {M : Mem} {ih2 : Int32 → Option Int32} {ih18 : Int32 → Int32 → Option Int32} {x1 : Int32} {x2 : Int32} {d2 : Nat} {d18 : Nat} (hk0 : isL k0) (h_M : OKb f M) (hx1 : (2 : Int) ≤ (x1).toInt ∧ (x1).toInt ≤ 8) (hx2 : (0 : Int) ≤ (x2).toInt ∧ (x2).toInt ≤ 7) (he0 : (3 : Int) ≤ (rd M k0 6).toInt ∧ (rd M k0 6).toInt ≤ 9) (hih2 : ∀ (yx1 : Int32), ((2 : Int) ≤ (yx1).toInt ∧ (yx1).toInt ≤ 9) → 9 - (yx1).toInt < d2 → Sf (ih2 yx1) (pI (0) (1))) (hmu2 : 9 - (x1).toInt ≤ d2) (hih18 : ∀ (yx1 : Int32) (yx2 : Int32), ((2 : Int) ≤ (yx1).toInt ∧ (yx1).toInt ≤ 8) → ((0 : Int) ≤ (yx2).toInt ∧ (yx2).toInt ≤ 7) → (9 - (yx1).toInt ≤ d2) → 7 - (yx2).toInt < d18 → Sf (ih18 yx1 yx2) (pI (0) (1))) (hmu18 : 7 - (x2).toInt ≤ d18) : Sf (mX2_crossesItself_b18 k0 M ih2 ih18 x1 x2) (pI (0) (1)) := by
  unfold mX2_crossesItself_b18
  have n_1 : ((1 : Int32)).toInt = 1 := rfl
  try have a_2 : ((x1 - (1 : Int32))).toInt = (x1).toInt - ((1 : Int32)).toInt := i_sub (by omega) (by omega)
  refine Sf.i (fun c_3 => ?_) (fun c_3 => ?_)
  · have c_3 := i_le.mp c_3
    try have a_4 : ((x1 + (1 : Int32))).toInt = (x1).toInt + ((1 : Int32)).toInt := i_add (by omega) (by omega)
    refine Sf.b (fun x1_42 e_x1_42 => ?_)
    have d_x1_42 := congrArg Int32.toInt e_x1_42
    exact (hih2 _ ⟨by omega, by omega⟩ (by omega))
  · have c_3 := i_nle c_3
    refine Sf.c (sX2_touch hk0 h_M ⟨by omega, by omega⟩ ⟨by omega, by omega⟩) (fun r6 p_5 => ?_)
    obtain ⟨p_5a, p_5b⟩ := p_5
    have n_6 : ((0 : Int32)).toInt = 0 := rfl
    refine Sf.i (fun c_7 => ?_) (fun c_7 => ?_)
    · have c_7 := i_eq.mp c_7
      try have a_8 : ((x2 + (1 : Int32))).toInt = (x2).toInt + ((1 : Int32)).toInt := i_add (by omega) (by omega)
      refine Sf.b (fun x2_36 e_x2_36 => ?_)
      have d_x2_36 := congrArg Int32.toInt e_x2_36
      exact (hih18 _ _ ⟨by omega, by omega⟩ ⟨by omega, by omega⟩ (by omega) (by omega))
    · have c_7 := i_ne c_7
      have z_9 : (0 : Int) ≤ ((1 : Int32)).toInt ∧ ((1 : Int32)).toInt ≤ 1 := ⟨by omega, by omega⟩
      exact Sf.ok z_9
theorem sX2_crossesItself_l18_n {f : Bx} {k0 : Nat} (hk0 : isL k0) {M : Mem} {ih2 : Int32 → Option Int32} {d2 : Nat} (h_M : OKb f M) (he0 : (3 : Int) ≤ (rd M k0 6).toInt ∧ (rd M k0 6).toInt ≤ 9) (hih2 : ∀ (yx1 : Int32), ((2 : Int) ≤ (yx1).toInt ∧ (yx1).toInt ≤ 9) → 9 - (yx1).toInt < d2 → Sf (ih2 yx1) (pI (0) (1))) : ∀ (n : Nat) (x1 : Int32) (x2 : Int32) (hx1 : (2 : Int) ≤ (x1).toInt ∧ (x1).toInt ≤ 8) (hx2 : (0 : Int) ≤ (x2).toInt ∧ (x2).toInt ≤ 7)  (hmu2 : 9 - (x1).toInt ≤ d2) (hmu : 7 - (x2).toInt < n), Sf (mX2_crossesItself_l18 k0 M ih2 n x1 x2) (pI (0) (1)) := by
  intro n
  induction n with
  | zero => intro x1 x2 hx1 hx2 hmu2 hmu; exfalso; omega
  | succ n IH => intro x1 x2 hx1 hx2 hmu2 hmu; exact sX2_crossesItself_b18 hk0 h_M hx1 hx2 he0  hih2 hmu2 IH (by omega)
theorem sX2_crossesItself_l18 {f : Bx} {k0 : Nat} (hk0 : isL k0) {M : Mem} {x1 : Int32} {x2 : Int32} {ih2 : Int32 → Option Int32} {d2 : Nat} (h_M : OKb f M) (hx1 : (2 : Int) ≤ (x1).toInt ∧ (x1).toInt ≤ 8) (hx2 : (0 : Int) ≤ (x2).toInt ∧ (x2).toInt ≤ 7) (he0 : (3 : Int) ≤ (rd M k0 6).toInt ∧ (rd M k0 6).toInt ≤ 9)  (hih2 : ∀ (yx1 : Int32), ((2 : Int) ≤ (yx1).toInt ∧ (yx1).toInt ≤ 9) → 9 - (yx1).toInt < d2 → Sf (ih2 yx1) (pI (0) (1))) (hmu2 : 9 - (x1).toInt ≤ d2) (hmu : 7 - (x2).toInt < 5000) : Sf (mX2_crossesItself_l18 k0 M ih2 5000 x1 x2) (pI (0) (1)) :=
  sX2_crossesItself_l18_n hk0 h_M he0 hih2 5000 _ _ hx1 hx2  hmu2 hmu
set_option maxHeartbeats 2000000 in
theorem sX2_crossesItself_b2 {f : Bx} {k0 : Nat} {M : Mem} {ih2 : Int32 → Option Int32} {x1 : Int32} {d2 : Nat} (hk0 : isL k0) (h_M : OKb f M) (hx1 : (2 : Int) ≤ (x1).toInt ∧ (x1).toInt ≤ 9) (hih2 : ∀ (yx1 : Int32), ((2 : Int) ≤ (yx1).toInt ∧ (yx1).toInt ≤ 9) → 9 - (yx1).toInt < d2 → Sf (ih2 yx1) (pI (0) (1))) (hmu2 : 9 - (x1).toInt ≤ d2) : Sf (mX2_crossesItself_b2 k0 M ih2 x1) (pI (0) (1)) := by
  unfold mX2_crossesItself_b2
  have b_1 : (0 : Int) ≤ (rd M k0 6).toInt ∧ (rd M k0 6).toInt ≤ 9 := h_M.at (bx_L0 hk0)
  refine Sf.i (fun c_2 => ?_) (fun c_2 => ?_)
  · have c_2 := i_le.mp c_2
    have n_3 : ((0 : Int32)).toInt = 0 := rfl
    have z_4 : (0 : Int) ≤ ((0 : Int32)).toInt ∧ ((0 : Int32)).toInt ≤ 1 := ⟨by omega, by omega⟩
    exact Sf.ok z_4
  · have c_2 := i_nle c_2
    have n_5 : ((9 : Int32)).toInt = 9 := rfl
    refine Sf.i (fun c_6 => ?_) (fun c_6 => ?_)
    · have c_6 := i_le.mp c_6
      exfalso; omega
    · have c_6 := i_nle c_6
      have n_7 : ((0 : Int32)).toInt = 0 := rfl
      exact (sX2_crossesItself_l18 hk0 h_M ⟨by omega, by omega⟩ ⟨by omega, by omega⟩ ⟨by omega, by omega⟩ hih2 (by omega) (by omega))
theorem sX2_crossesItself_l2_n {f : Bx} {k0 : Nat} (hk0 : isL k0) {M : Mem}  (h_M : OKb f M)   : ∀ (n : Nat) (x1 : Int32) (hx1 : (2 : Int) ≤ (x1).toInt ∧ (x1).toInt ≤ 9)   (hmu : 9 - (x1).toInt < n), Sf (mX2_crossesItself_l2 k0 M n x1) (pI (0) (1)) := by
  intro n
  induction n with
  | zero => intro x1 hx1 hmu; exfalso; omega
  | succ n IH => intro x1 hx1 hmu; exact sX2_crossesItself_b2 hk0 h_M hx1    IH (by omega)
theorem sX2_crossesItself_l2 {f : Bx} {k0 : Nat} (hk0 : isL k0) {M : Mem} {x1 : Int32}  (h_M : OKb f M) (hx1 : (2 : Int) ≤ (x1).toInt ∧ (x1).toInt ≤ 9)    (hmu : 9 - (x1).toInt < 5000) : Sf (mX2_crossesItself_l2 k0 M 5000 x1) (pI (0) (1)) :=
  sX2_crossesItself_l2_n hk0 h_M   5000 _ hx1   hmu
set_option maxHeartbeats 2000000 in
theorem sX2_crossesItself {f : Bx} {k0 : Nat} {M : Mem} (hk0 : isL k0) (h_M : OKb f M) : Sf (mX2_crossesItself k0 M) (pI (0) (1)) := by
  unfold mX2_crossesItself
  have n_1 : ((2 : Int32)).toInt = 2 := rfl
  exact (sX2_crossesItself_l2 hk0 h_M ⟨by omega, by omega⟩ (by omega))
set_option maxHeartbeats 2000000 in
theorem sX2_reasonFor_b20 {f : Bx} {k0 : Nat} {k1 : Nat} {x2 : Int32} {x3 : Int32} {x4 : Int32} {y0 : Int32} {M : Mem} (hk0 : isL k0) (hk1 : isP k1) (h_M : OKb f M) (hx2 : (0 : Int) ≤ (x2).toInt ∧ (x2).toInt ≤ 255) (hx3 : (0 : Int) ≤ (x3).toInt ∧ (x3).toInt ≤ 15) (hx4 : (0 : Int) ≤ (x4).toInt ∧ (x4).toInt ≤ 7) (hy0 : (0 : Int) ≤ (y0).toInt ∧ (y0).toInt ≤ 8) : Sf (mX2_reasonFor_b20 k0 k1 x2 x3 x4 y0 M) (pMI f (0) (6)) := by
  unfold mX2_reasonFor_b20
  try have a_1 := i_shr (a := x2) (b := x4) (by omega)
  have n_2 : ((1 : Int32)).toInt = 1 := rfl
  try have a_3 := i_and (a := (x2 >>> (x4 &&& 31))) (b := (1 : Int32)) (by omega)
  try have a_4 := i_andr (a := (x2 >>> (x4 &&& 31))) (b := (1 : Int32)) (by omega)
  have n_5 : ((0 : Int32)).toInt = 0 := rfl
  refine Sf.i (fun c_6 => ?_) (fun c_6 => ?_)
  · have c_6 := i_eq.mp c_6
    refine Sf.i (fun c_7 => ?_) (fun c_7 => ?_)
    · have c_7 := i_lt.mp c_7
      exfalso; omega
    · have c_7 := i_nlt c_7
      have n_8 : ((9 : Int32)).toInt = 9 := rfl
      refine Sf.i (fun c_9 => ?_) (fun c_9 => ?_)
      · have c_9 := i_le.mp c_9
        exfalso; omega
      · have c_9 := i_nle c_9
        refine Sf.k (ok_in (by omega) (by omega)) ?_
        have n_10 : ((8 : Int32)).toInt = 8 := rfl
        refine Sf.k (ok_in (by omega) (by omega)) ?_
        have b_11 : (0 : Int) ≤ (rd M (k1 + 1) ((y0).toNatClampNeg)).toInt ∧ (rd M (k1 + 1) ((y0).toNatClampNeg)).toInt ≤ 9999 := h_M.at (bx_P (c := 1) hk1 (by omega))
        refine Sf.i (fun c_12 => ?_) (fun c_12 => ?_)
        · have c_12 := i_le.mp c_12
          refine Sf.m (sX2_layStep hk0 hk1 h_M ⟨by omega, by omega⟩ ⟨by omega, by omega⟩) (fun M11 _ h_M11 => ?_)
          have h_M11 : OKb f M11 := h_M11
          refine Sf.c (sX2_reachToBack hk0 h_M11) (fun r13 p_14 => ?_)
          obtain ⟨p_14a, p_14b⟩ := p_14
          have n_15 : ((6 : Int32)).toInt = 6 := rfl
          refine Sf.k (ok_in (by omega) (by omega)) ?_
          refine Sf.i (fun c_16 => ?_) (fun c_16 => ?_)
          · have c_16 := i_lt.mp c_16
            have n_17 : ((3 : Int32)).toInt = 3 := rfl
            have z_18 : (0 : Int) ≤ ((3 : Int32)).toInt ∧ ((3 : Int32)).toInt ≤ 6 := ⟨by omega, by omega⟩
            exact Sf.ok ⟨h_M11, z_18⟩
          · have c_16 := i_nlt c_16
            have n_19 : ((7 : Int32)).toInt = 7 := rfl
            refine Sf.k (ok_in (by omega) (by omega)) ?_
            refine Sf.i (fun c_20 => ?_) (fun c_20 => ?_)
            · have c_20 := i_le.mp c_20
              refine Sf.c (sX2_legsHitting hk0 hk1 h_M11) (fun r20 p_21 => ?_)
              obtain ⟨p_21a, p_21b⟩ := p_21
              have b_22 : (0 : Int) ≤ (rd M11 k0 7).toInt ∧ (rd M11 k0 7).toInt ≤ 8 := h_M11.at (bx_L0 hk0)
              try have a_23 : 0 < (((1 : Int32) <<< ((rd M11 k0 7) &&& 31))).toInt ∧ (((1 : Int32) <<< ((rd M11 k0 7) &&& 31))).toInt ≤ 256 := i_shl 8 (by decide) ⟨by omega, by omega⟩
              refine Sf.b (fun x8_123 e_x8_123 => ?_)
              have d_x8_123 := congrArg Int32.toInt e_x8_123
              try have a_24 := i_and (a := r20) (b := x8_123) (by omega)
              refine Sf.i (fun c_25 => ?_) (fun c_25 => ?_)
              · have c_25 := i_eq.mp c_25
                refine Sf.i (fun c_26 => ?_) (fun c_26 => ?_)
                · have c_26 := i_eq.mp c_26
                  refine Sf.c (sX2_crossesItself hk0 h_M11) (fun r26 p_27 => ?_)
                  obtain ⟨p_27a, p_27b⟩ := p_27
                  refine Sf.i (fun c_28 => ?_) (fun c_28 => ?_)
                  · have c_28 := i_eq.mp c_28
                    have n_29 : ((0 : Int32)).toInt = 0 := rfl
                    have z_30 : (0 : Int) ≤ ((0 : Int32)).toInt ∧ ((0 : Int32)).toInt ≤ 6 := ⟨by omega, by omega⟩
                    exact Sf.ok ⟨h_M11, z_30⟩
                  · have c_28 := i_ne c_28
                    have z_31 : (0 : Int) ≤ ((6 : Int32)).toInt ∧ ((6 : Int32)).toInt ≤ 6 := ⟨by omega, by omega⟩
                    exact Sf.ok ⟨h_M11, z_31⟩
                · have c_26 := i_ne c_26
                  have n_32 : ((5 : Int32)).toInt = 5 := rfl
                  have z_33 : (0 : Int) ≤ ((5 : Int32)).toInt ∧ ((5 : Int32)).toInt ≤ 6 := ⟨by omega, by omega⟩
                  exact Sf.ok ⟨h_M11, z_33⟩
              · have c_25 := i_ne c_25
                have n_34 : ((4 : Int32)).toInt = 4 := rfl
                have z_35 : (0 : Int) ≤ ((4 : Int32)).toInt ∧ ((4 : Int32)).toInt ≤ 6 := ⟨by omega, by omega⟩
                exact Sf.ok ⟨h_M11, z_35⟩
            · have c_20 := i_nle c_20
              have n_36 : ((3 : Int32)).toInt = 3 := rfl
              have z_37 : (0 : Int) ≤ ((3 : Int32)).toInt ∧ ((3 : Int32)).toInt ≤ 6 := ⟨by omega, by omega⟩
              exact Sf.ok ⟨h_M11, z_37⟩
        · have c_12 := i_nle c_12
          have n_38 : ((2 : Int32)).toInt = 2 := rfl
          have z_39 : (0 : Int) ≤ ((2 : Int32)).toInt ∧ ((2 : Int32)).toInt ≤ 6 := ⟨by omega, by omega⟩
          exact Sf.ok ⟨h_M, z_39⟩
  · have c_6 := i_ne c_6
    have z_40 : (0 : Int) ≤ ((1 : Int32)).toInt ∧ ((1 : Int32)).toInt ≤ 6 := ⟨by omega, by omega⟩
    exact Sf.ok ⟨h_M, z_40⟩
set_option maxHeartbeats 2000000 in
theorem sX2_reasonFor {f : Bx} {k0 : Nat} {k1 : Nat} {x2 : Int32} {x3 : Int32} {M : Mem} (hk0 : isL k0) (hk1 : isP k1) (h_M : OKb f M) (hx2 : (0 : Int) ≤ (x2).toInt ∧ (x2).toInt ≤ 255) (hx3 : (0 : Int) ≤ (x3).toInt ∧ (x3).toInt ≤ 15) : Sf (mX2_reasonFor k0 k1 x2 x3 M) (pMI f (0) (6)) := by
  unfold mX2_reasonFor
  try have a_1 := i_shr1 (a := x3)
  refine Sf.b (fun x4_3 e_x4_3 => ?_)
  have d_x4_3 := congrArg Int32.toInt e_x4_3
  have n_2 : ((1 : Int32)).toInt = 1 := rfl
  try have a_3 := i_and (a := x3) (b := (1 : Int32)) (by omega)
  try have a_4 := i_andr (a := x3) (b := (1 : Int32)) (by omega)
  have n_5 : ((0 : Int32)).toInt = 0 := rfl
  refine Sf.i (fun c_6 => ?_) (fun c_6 => ?_)
  · have c_6 := i_eq.mp c_6
    try have a_7 : ((x4_3 + (1 : Int32))).toInt = (x4_3).toInt + ((1 : Int32)).toInt := i_add (by omega) (by omega)
    exact (sX2_reasonFor_b20 hk0 hk1 h_M ⟨by omega, by omega⟩ ⟨by omega, by omega⟩ ⟨by omega, by omega⟩ ⟨by omega, by omega⟩)
  · have c_6 := i_ne c_6
    exact (sX2_reasonFor_b20 hk0 hk1 h_M ⟨by omega, by omega⟩ ⟨by omega, by omega⟩ ⟨by omega, by omega⟩ ⟨by omega, by omega⟩)
set_option maxHeartbeats 2000000 in
theorem sX2_possibleSteps_b34 {f : Bx} {k0 : Nat} {k1 : Nat} {ih5 : Int32 → Int32 → Int32 → Mem → Option (Mem × Int32)} {x2 : Int32} {x3 : Int32} {x4 : Int32} {M : Mem} {d5 : Nat} (hk0 : isL k0) (hk1 : isP k1) (h_M : OKb f M) (hx2 : (0 : Int) ≤ (x2).toInt ∧ (x2).toInt ≤ 255) (hx3 : (0 : Int) ≤ (x3).toInt ∧ (x3).toInt ≤ 65535) (hx4 : (0 : Int) ≤ (x4).toInt ∧ (x4).toInt ≤ 15) (hih5 : ∀ (yx2 : Int32) (yx3 : Int32) (yx4 : Int32) (M : Mem), OKb f M → ((0 : Int) ≤ (yx2).toInt ∧ (yx2).toInt ≤ 255) → ((0 : Int) ≤ (yx3).toInt ∧ (yx3).toInt ≤ 65535) → ((0 : Int) ≤ (yx4).toInt ∧ (yx4).toInt ≤ 16) → 16 - (yx4).toInt < d5 → Sf (ih5 yx2 yx3 yx4 M) (pMI f (0) (65535))) (hmu5 : 16 - (x4).toInt ≤ d5) : Sf (mX2_possibleSteps_b34 k0 k1 ih5 x2 x3 x4 M) (pMI f (0) (65535)) := by
  unfold mX2_possibleSteps_b34
  have n_1 : ((1 : Int32)).toInt = 1 := rfl
  try have a_2 : ((x4 + (1 : Int32))).toInt = (x4).toInt + ((1 : Int32)).toInt := i_add (by omega) (by omega)
  refine Sf.b (fun x4_34 e_x4_34 => ?_)
  have d_x4_34 := congrArg Int32.toInt e_x4_34
  exact (hih5 _ _ _ _ h_M ⟨by omega, by omega⟩ ⟨by omega, by omega⟩ ⟨by omega, by omega⟩ (by omega))
set_option maxHeartbeats 2000000 in
theorem sX2_possibleSteps_b5 {f : Bx} {k0 : Nat} {k1 : Nat} {ih5 : Int32 → Int32 → Int32 → Mem → Option (Mem × Int32)} {x2 : Int32} {x3 : Int32} {x4 : Int32} {M : Mem} {d5 : Nat} (hk0 : isL k0) (hk1 : isP k1) (h_M : OKb f M) (hx2 : (0 : Int) ≤ (x2).toInt ∧ (x2).toInt ≤ 255) (hx3 : (0 : Int) ≤ (x3).toInt ∧ (x3).toInt ≤ 65535) (hx4 : (0 : Int) ≤ (x4).toInt ∧ (x4).toInt ≤ 16) (hih5 : ∀ (yx2 : Int32) (yx3 : Int32) (yx4 : Int32) (M : Mem), OKb f M → ((0 : Int) ≤ (yx2).toInt ∧ (yx2).toInt ≤ 255) → ((0 : Int) ≤ (yx3).toInt ∧ (yx3).toInt ≤ 65535) → ((0 : Int) ≤ (yx4).toInt ∧ (yx4).toInt ≤ 16) → 16 - (yx4).toInt < d5 → Sf (ih5 yx2 yx3 yx4 M) (pMI f (0) (65535))) (hmu5 : 16 - (x4).toInt ≤ d5) : Sf (mX2_possibleSteps_b5 k0 k1 ih5 x2 x3 x4 M) (pMI f (0) (65535)) := by
  unfold mX2_possibleSteps_b5
  refine Sf.c (sX1_bendCount hk1 h_M) (fun r2 p_1 => ?_)
  obtain ⟨p_1a, p_1b⟩ := p_1
  have n_2 : ((2 : Int32)).toInt = 2 := rfl
  try have a_3 : (((2 : Int32) * r2)).toInt = 2 * (r2).toInt := i_mulc (by omega) (by omega) (by omega)
  refine Sf.i (fun c_4 => ?_) (fun c_4 => ?_)
  · have c_4 := i_le.mp c_4
    have z_5 : (0 : Int) ≤ (x3).toInt ∧ (x3).toInt ≤ 65535 := ⟨by omega, by omega⟩
    exact Sf.ok ⟨h_M, z_5⟩
  · have c_4 := i_nle c_4
    refine Sf.m (sX2_reasonFor hk0 hk1 h_M ⟨by omega, by omega⟩ ⟨by omega, by omega⟩) (fun M7 r6 p_6 => ?_)
    have h_M7 : OKb f M7 := p_6.1
    have p_6 : (0 : Int) ≤ (r6).toInt ∧ _ ≤ (6 : Int) := p_6.2
    have n_7 : ((0 : Int32)).toInt = 0 := rfl
    refine Sf.i (fun c_8 => ?_) (fun c_8 => ?_)
    · have c_8 := i_eq.mp c_8
      try have a_9 : 0 < (((1 : Int32) <<< (x4 &&& 31))).toInt ∧ (((1 : Int32) <<< (x4 &&& 31))).toInt ≤ 32768 := i_shl 15 (by decide) ⟨by omega, by omega⟩
      try have a_10 : 0 ≤ ((x3 ||| ((1 : Int32) <<< (x4 &&& 31)))).toInt ∧ ((x3 ||| ((1 : Int32) <<< (x4 &&& 31)))).toInt < 65536 := i_or 16 (by decide) ⟨by omega, by omega⟩ ⟨by omega, by omega⟩
      refine Sf.b (fun x3_33 e_x3_33 => ?_)
      have d_x3_33 := congrArg Int32.toInt e_x3_33
      exact (sX2_possibleSteps_b34 hk0 hk1 h_M7 ⟨by omega, by omega⟩ ⟨by omega, by omega⟩ ⟨by omega, by omega⟩ hih5 (by omega))
    · have c_8 := i_ne c_8
      exact (sX2_possibleSteps_b34 hk0 hk1 h_M7 ⟨by omega, by omega⟩ ⟨by omega, by omega⟩ ⟨by omega, by omega⟩ hih5 (by omega))
theorem sX2_possibleSteps_l5_n {f : Bx} {k0 : Nat} (hk0 : isL k0) {k1 : Nat} (hk1 : isP k1)   : ∀ (n : Nat) (x2 : Int32) (x3 : Int32) (x4 : Int32) (M : Mem) (h_M : OKb f M) (hx2 : (0 : Int) ≤ (x2).toInt ∧ (x2).toInt ≤ 255) (hx3 : (0 : Int) ≤ (x3).toInt ∧ (x3).toInt ≤ 65535) (hx4 : (0 : Int) ≤ (x4).toInt ∧ (x4).toInt ≤ 16)    (hmu : 16 - (x4).toInt < n), Sf (mX2_possibleSteps_l5 k0 k1 n x2 x3 x4 M) (pMI f (0) (65535)) := by
  intro n
  induction n with
  | zero => intro x2 x3 x4 M h_M hx2 hx3 hx4 hmu; exfalso; omega
  | succ n IH => intro x2 x3 x4 M h_M hx2 hx3 hx4 hmu; exact sX2_possibleSteps_b5 hk0 hk1 h_M hx2 hx3 hx4    IH (by omega)
theorem sX2_possibleSteps_l5 {f : Bx} {k0 : Nat} (hk0 : isL k0) {k1 : Nat} (hk1 : isP k1) {x2 : Int32} {x3 : Int32} {x4 : Int32} {M : Mem}  (h_M : OKb f M) (hx2 : (0 : Int) ≤ (x2).toInt ∧ (x2).toInt ≤ 255) (hx3 : (0 : Int) ≤ (x3).toInt ∧ (x3).toInt ≤ 65535) (hx4 : (0 : Int) ≤ (x4).toInt ∧ (x4).toInt ≤ 16)    (hmu : 16 - (x4).toInt < 5000) : Sf (mX2_possibleSteps_l5 k0 k1 5000 x2 x3 x4 M) (pMI f (0) (65535)) :=
  sX2_possibleSteps_l5_n hk0 hk1  5000 _ _ _ M h_M hx2 hx3 hx4    hmu
set_option maxHeartbeats 2000000 in
theorem sX2_possibleSteps {f : Bx} {k0 : Nat} {k1 : Nat} {x2 : Int32} {M : Mem} (hk0 : isL k0) (hk1 : isP k1) (h_M : OKb f M) (hx2 : (0 : Int) ≤ (x2).toInt ∧ (x2).toInt ≤ 255) : Sf (mX2_possibleSteps k0 k1 x2 M) (pMI f (0) (65535)) := by
  unfold mX2_possibleSteps
  have n_1 : ((0 : Int32)).toInt = 0 := rfl
  exact (sX2_possibleSteps_l5 hk0 hk1 h_M ⟨by omega, by omega⟩ ⟨by omega, by omega⟩ ⟨by omega, by omega⟩ (by omega))
set_option maxHeartbeats 2000000 in
theorem sX0_forgetAll {f : Bx} {M : Mem} (h_M : OKb f M) : Sf (mX0_forgetAll 21 M) (pM f) := by
  unfold mX0_forgetAll
  have n_1 : ((0 : Int32)).toInt = 0 := rfl
  have z_2 : (0 : Int) ≤ ((0 : Int32)).toInt ∧ ((0 : Int32)).toInt ≤ 10 := ⟨by omega, by omega⟩
  refine Sf.b (fun M1 e_M1 => ?_)
  have h_M1 : OKb f M1 := by rw [e_M1]; exact h_M.put rfl z_2
  exact Sf.ok h_M1
set_option maxHeartbeats 2000000 in
theorem sX0_remember_b32 {f : Bx} {k1 : Nat} {M : Mem} (hk1 : isP k1) (h_M : OKb f M) (he0 : (0 : Int) ≤ (rd M 21 2).toInt ∧ (rd M 21 2).toInt ≤ 9) (hxx : (rd M 21 2).toInt ≤ 9) : Sf (mX0_remember_b32 21 k1 M) (pM f) := by
  unfold mX0_remember_b32
  have b_1 : (0 : Int) ≤ (rd M 21 1).toInt ∧ (rd M 21 1).toInt ≤ 9 := h_M.at rfl
  have b_2 : (0 : Int) ≤ (rd M 21 2).toInt ∧ (rd M 21 2).toInt ≤ 10 := h_M.at rfl
  try have a_3 : (((rd M 21 1) + (rd M 21 2))).toInt = ((rd M 21 1)).toInt + ((rd M 21 2)).toInt := i_add (by omega) (by omega)
  have n_4 : ((10 : Int32)).toInt = 10 := rfl
  try have a_5 : ((((rd M 21 1) + (rd M 21 2)) / (10 : Int32))).toInt = (((rd M 21 1) + (rd M 21 2))).toInt / 10 := (i_div (by omega) (by omega)).trans (by rw [show ((10 : Int32)).toInt = 10 from rfl])
  try have a_6 : (((((rd M 21 1) + (rd M 21 2)) / (10 : Int32)) * (10 : Int32))).toInt = ((((rd M 21 1) + (rd M 21 2)) / (10 : Int32))).toInt * 10 := i_mulr (by omega) (by omega) (by omega)
  try have a_7 : ((((rd M 21 1) + (rd M 21 2)) - ((((rd M 21 1) + (rd M 21 2)) / (10 : Int32)) * (10 : Int32)))).toInt = (((rd M 21 1) + (rd M 21 2))).toInt - (((((rd M 21 1) + (rd M 21 2)) / (10 : Int32)) * (10 : Int32))).toInt := i_sub (by omega) (by omega)
  refine Sf.k (ok_in (by omega) (by omega)) ?_
  refine Sf.m (sX1_copyFrom (isP_h (by first | omega | (rw [i_clamp]; omega))) hk1 h_M) (fun M5 _ p_8 => ?_)
  have h_M5 : OKb f M5 := p_8.1
  have gq_M5 : ∀ j, rd M5 21 j = rd M 21 j := p_8.2
  have gi_M51 := congrArg Int32.toInt (gq_M5 1)
  have gi_M52 := congrArg Int32.toInt (gq_M5 2)
  have b_9 : (0 : Int) ≤ (rd M5 21 2).toInt ∧ (rd M5 21 2).toInt ≤ 10 := h_M5.at rfl
  have n_10 : ((1 : Int32)).toInt = 1 := rfl
  try have a_11 : (((rd M5 21 2) + (1 : Int32))).toInt = ((rd M5 21 2)).toInt + ((1 : Int32)).toInt := i_add (by omega) (by omega)
  have z_12 : (0 : Int) ≤ (((rd M5 21 2) + (1 : Int32))).toInt ∧ (((rd M5 21 2) + (1 : Int32))).toInt ≤ 10 := ⟨by omega, by omega⟩
  refine Sf.b (fun M6 e_M6 => ?_)
  have h_M6 : OKb f M6 := by rw [e_M6]; exact h_M5.put rfl z_12
  exact Sf.ok h_M6
set_option maxHeartbeats 2000000 in
theorem sX0_remember {f : Bx} {k1 : Nat} {M : Mem} (hk1 : isP k1) (h_M : OKb f M) : Sf (mX0_remember 21 k1 M) (pM f) := by
  unfold mX0_remember
  have b_1 : (0 : Int) ≤ (rd M 21 2).toInt ∧ (rd M 21 2).toInt ≤ 10 := h_M.at rfl
  have n_2 : ((10 : Int32)).toInt = 10 := rfl
  refine Sf.i (fun c_3 => ?_) (fun c_3 => ?_)
  · have c_3 := i_eq.mp c_3
    have b_4 : (0 : Int) ≤ (rd M 21 1).toInt ∧ (rd M 21 1).toInt ≤ 9 := h_M.at rfl
    have n_5 : ((1 : Int32)).toInt = 1 := rfl
    try have a_6 : (((rd M 21 1) + (1 : Int32))).toInt = ((rd M 21 1)).toInt + ((1 : Int32)).toInt := i_add (by omega) (by omega)
    try have a_7 : ((((rd M 21 1) + (1 : Int32)) / (10 : Int32))).toInt = (((rd M 21 1) + (1 : Int32))).toInt / 10 := (i_div (by omega) (by omega)).trans (by rw [show ((10 : Int32)).toInt = 10 from rfl])
    try have a_8 : (((((rd M 21 1) + (1 : Int32)) / (10 : Int32)) * (10 : Int32))).toInt = ((((rd M 21 1) + (1 : Int32)) / (10 : Int32))).toInt * 10 := i_mulr (by omega) (by omega) (by omega)
    try have a_9 : ((((rd M 21 1) + (1 : Int32)) - ((((rd M 21 1) + (1 : Int32)) / (10 : Int32)) * (10 : Int32)))).toInt = (((rd M 21 1) + (1 : Int32))).toInt - (((((rd M 21 1) + (1 : Int32)) / (10 : Int32)) * (10 : Int32))).toInt := i_sub (by omega) (by omega)
    have z_10 : (0 : Int) ≤ ((((rd M 21 1) + (1 : Int32)) - ((((rd M 21 1) + (1 : Int32)) / (10 : Int32)) * (10 : Int32)))).toInt ∧ ((((rd M 21 1) + (1 : Int32)) - ((((rd M 21 1) + (1 : Int32)) / (10 : Int32)) * (10 : Int32)))).toInt ≤ 9 := ⟨by omega, by omega⟩
    refine Sf.b (fun M8 e_M8 => ?_)
    have h_M8 : OKb f M8 := by rw [e_M8]; exact h_M.put rfl z_10
    have w_11 : (rd M8 21 2).toInt = (rd M 21 2).toInt := by rw [e_M8, rd_wj (by decide)]
    try have a_12 : (((rd M8 21 2) - (1 : Int32))).toInt = ((rd M8 21 2)).toInt - ((1 : Int32)).toInt := i_sub (by omega) (by omega)
    have z_13 : (0 : Int) ≤ (((rd M8 21 2) - (1 : Int32))).toInt ∧ (((rd M8 21 2) - (1 : Int32))).toInt ≤ 10 := ⟨by omega, by omega⟩
    refine Sf.b (fun M10 e_M10 => ?_)
    have h_M10 : OKb f M10 := by rw [e_M10]; exact h_M8.put rfl z_13
    have w_14 : (rd M10 21 2).toInt = (((rd M8 21 2) - (1 : Int32))).toInt := by rw [e_M10, rd_we]
    exact (sX0_remember_b32 hk1 h_M10 ⟨by omega, by omega⟩ (by omega))
  · have c_3 := i_ne c_3
    exact (sX0_remember_b32 hk1 h_M ⟨by omega, by omega⟩ (by omega))
