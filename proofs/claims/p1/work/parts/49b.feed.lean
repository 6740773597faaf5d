/-! feed -/
theorem i32_600 : ∀ i : Fin 300, ¬ (600 : Int32) ≤ Int32.ofNat i.1 ∧ okb (Int32.ofNat i.1) 600 = true := by decide +kernel
theorem i32_600' {n : Nat} (hn : n < 300) : ¬ (600 : Int32) ≤ Int32.ofNat n ∧ okb (Int32.ofNat n) 600 = true := i32_600 ⟨n, hn⟩
theorem apc_s {f n : Nat} {x x2 : Int32} {M : Mem} (h : rd M 0 1 = Int32.ofNat n) (hn : n < 300) (h2 : ¬ x2 < 0) : ∃ M', mX6_append_l3 0 (f + 1) x x2 M = mX6_append_l3 0 f x (x2 + (-8 : Int32)) M' ∧ rd M' 0 1 = Int32.ofNat (n + 1) := by
  obtain ⟨c1, c2⟩ := i32_600' hn
  have e : mX6_append_l3 0 (f + 1) x x2 M = mX6_append_l3 0 f x (x2 + (-8 : Int32)) (wr (wr M 1 (rd M 0 1).toNatClampNeg (vp_nar .byte ((x >>> (x2 &&& 31))).toInt8.toInt32)) 0 1 ((rd (wr M 1 (rd M 0 1).toNatClampNeg (vp_nar .byte ((x >>> (x2 &&& 31))).toInt8.toInt32)) 0 1) + (1 : Int32))) := by
    show mX6_append_b3 0 (mX6_append_l3 0 f) x x2 M = _
    unfold mX6_append_b3
    rw [ite_n h2, ite_n (by rw [h]; exact c1), chk_t (by rw [h]; exact c2), bnd_e, bnd_e]
    rfl
  refine ⟨_, e, ?_⟩
  generalize hN : wr M 1 (rd M 0 1).toNatClampNeg (vp_nar .byte ((x >>> (x2 &&& 31))).toInt8.toInt32) = N
  have h0 : rd N 0 1 = Int32.ofNat n := by
    rw [← hN, ← h]
    unfold rd
    rw [(wr_o 0 (by decide)).1]
  unfold rd
  rw [wr_s]
  show rd N 0 1 + (1 : Int32) = _
  rw [h0]
  exact i32_s' hn
theorem apm_s {f n : Nat} {x x2 : Int32} {M : Mem} (h : rd M 135 7 = Int32.ofNat n) (hn : n < 300) (h2 : ¬ x2 < 0) : ∃ M', mX7_append_l3 135 (f + 1) x x2 M = mX7_append_l3 135 f x (x2 + (-8 : Int32)) M' ∧ rd M' 135 7 = Int32.ofNat (n + 1) := by
  obtain ⟨c1, c2⟩ := i32_600' hn
  have e : mX7_append_l3 135 (f + 1) x x2 M = mX7_append_l3 135 f x (x2 + (-8 : Int32)) (wr (wr M (135 + 5) (rd M 135 7).toNatClampNeg (((x).toUInt32 >>> ((x2).toUInt32 &&& Int32.toUInt32 31)).toInt32 &&& (255 : Int32))) 135 7 ((rd (wr M (135 + 5) (rd M 135 7).toNatClampNeg (((x).toUInt32 >>> ((x2).toUInt32 &&& Int32.toUInt32 31)).toInt32 &&& (255 : Int32))) 135 7) + (1 : Int32))) := by
    show mX7_append_b3 135 (mX7_append_l3 135 f) x x2 M = _
    unfold mX7_append_b3
    rw [ite_n h2, chk_t (by rw [h]; exact c2), bnd_e, bnd_e, bnd_e]
  refine ⟨_, e, ?_⟩
  generalize hN : wr M (135 + 5) (rd M 135 7).toNatClampNeg (((x).toUInt32 >>> ((x2).toUInt32 &&& Int32.toUInt32 31)).toInt32 &&& (255 : Int32)) = N
  have h0 : rd N 135 7 = Int32.ofNat n := by
    rw [← hN, ← h]
    unfold rd
    rw [(wr_o 135 (by decide)).1]
  unfold rd
  rw [wr_s]
  show rd N 135 7 + (1 : Int32) = _
  rw [h0]
  exact i32_s' hn
theorem apc {n : Nat} {x : Int32} {M : Mem} (h : rd M 0 1 = Int32.ofNat n) (hn : n < 290) : ∃ M', mX6_append 0 x M = some (M', ()) ∧ rd M' 0 1 = Int32.ofNat (n + 4) := by
  obtain ⟨M1, e1, h1⟩ := apc_s (f := 4999) (x := x) (x2 := 24) h (by omega) (by decide)
  obtain ⟨M2, e2, h2⟩ := apc_s (f := 4998) (x := x) (x2 := 24 + (-8 : Int32)) h1 (by omega) (by decide)
  obtain ⟨M3, e3, h3⟩ := apc_s (f := 4997) (x := x) (x2 := 24 + (-8 : Int32) + (-8 : Int32)) h2 (by omega) (by decide)
  obtain ⟨M4, e4, h4⟩ := apc_s (f := 4996) (x := x) (x2 := 24 + (-8 : Int32) + (-8 : Int32) + (-8 : Int32)) h3 (by omega) (by decide)
  refine ⟨M4, ?_, h4⟩
  unfold mX6_append
  rw [show (5000 : Nat) = 4999 + 1 from rfl, e1, show (4999 : Nat) = 4998 + 1 from rfl, e2, show (4998 : Nat) = 4997 + 1 from rfl, e3, show (4997 : Nat) = 4996 + 1 from rfl, e4]
  show mX6_append_b3 0 (mX6_append_l3 0 4995) x _ M4 = _
  unfold mX6_append_b3 ite2
  rw [if_pos (by decide)]
theorem apm {n : Nat} {x : Int32} {M : Mem} (h : rd M 135 7 = Int32.ofNat n) (hn : n < 290) : ∃ M', mX7_append 135 x M = some (M', ()) ∧ rd M' 135 7 = Int32.ofNat (n + 4) := by
  obtain ⟨M1, e1, h1⟩ := apm_s (f := 4999) (x := x) (x2 := 24) h (by omega) (by decide)
  obtain ⟨M2, e2, h2⟩ := apm_s (f := 4998) (x := x) (x2 := 24 + (-8 : Int32)) h1 (by omega) (by decide)
  obtain ⟨M3, e3, h3⟩ := apm_s (f := 4997) (x := x) (x2 := 24 + (-8 : Int32) + (-8 : Int32)) h2 (by omega) (by decide)
  obtain ⟨M4, e4, h4⟩ := apm_s (f := 4996) (x := x) (x2 := 24 + (-8 : Int32) + (-8 : Int32) + (-8 : Int32)) h3 (by omega) (by decide)
  refine ⟨M4, ?_, h4⟩
  unfold mX7_append
  rw [show (5000 : Nat) = 4999 + 1 from rfl, e1, show (4999 : Nat) = 4998 + 1 from rfl, e2, show (4998 : Nat) = 4997 + 1 from rfl, e3, show (4997 : Nat) = 4996 + 1 from rfl, e4]
  show mX7_append_b3 135 (mX7_append_l3 135 4995) x _ M4 = _
  unfold mX7_append_b3 ite2
  rw [if_pos (by decide)]
theorem cz_0 (a1 a2 a3 a4 a5 : Int32) : ∃ M' N', mlc_0 a1 a2 a3 a4 a5 MZ MZ = some (M', N') := by
  obtain ⟨M1, ec1, hc1⟩ := apc (n := 0) (x := a1) (show rd MZ 0 1 = Int32.ofNat 0 by decide +kernel) (by omega)
  obtain ⟨M2, ec2, hc2⟩ := apc (n := 4) (x := a2) hc1 (by omega)
  obtain ⟨M3, ec3, hc3⟩ := apc (n := 8) (x := a3) hc2 (by omega)
  obtain ⟨M4, ec4, hc4⟩ := apc (n := 12) (x := a4) hc3 (by omega)
  obtain ⟨M5, ec5, hc5⟩ := apc (n := 16) (x := a5) hc4 (by omega)
  obtain ⟨N1, em1, hm1⟩ := apm (n := 0) (x := a1) (show rd MF 135 7 = Int32.ofNat 0 by decide +kernel) (by omega)
  obtain ⟨N2, em2, hm2⟩ := apm (n := 4) (x := a2) hm1 (by omega)
  obtain ⟨N3, em3, hm3⟩ := apm (n := 8) (x := a3) hm2 (by omega)
  obtain ⟨N4, em4, hm4⟩ := apm (n := 12) (x := a4) hm3 (by omega)
  obtain ⟨N5, em5, hm5⟩ := apm (n := 16) (x := a5) hm4 (by omega)
  refine ⟨M5, N5, ?_⟩
  have f1 : mX6_feed 0 a1 a2 a3 a4 a5 MZ = some (M5, Int32.ofNat 20) := by
    unfold mX6_feed
    rw [ite_p (by decide +kernel), ec1, cal_e, ec2, cal_e, ec3, cal_e, ec4, cal_e, ec5, cal_e, hc5]
  have f2 : mX7_feed 135 a1 a2 a3 a4 a5 MZ = some (N5, Int32.ofNat 20) := by
    unfold mX7_feed
    rw [bnd_e, show wr MZ 135 5 0 = MF from rfl, ite_p (by decide +kernel)]
    rw [em1, cal_e, em2, cal_e, em3, cal_e, em4, cal_e, em5, cal_e, hm5]
  unfold mlc_0
  rw [f1, cal_e, f2, cal_e, ite_p rfl]
theorem all_case (a0 a1 a2 a3 a4 a5 : Int32) : ∃ M' N', mcase a0 a1 a2 a3 a4 a5 MZ MZ = some (M', N') := by
  unfold mcase
  by_cases c0 : a0 &&& 63 = 0
  · rw [ite_p c0]; exact cz_0 a1 a2 a3 a4 a5
  rw [ite_n c0]
  by_cases c1 : a0 &&& 63 = 1
  · rw [ite_p c1]; exact cz_1 a1 a2 a3 a4 a5
  rw [ite_n c1]
  by_cases c2 : a0 &&& 63 = 2
  · rw [ite_p c2]; exact cz_2 a1 a2 a3 a4 a5
  rw [ite_n c2]
  by_cases c3 : a0 &&& 63 = 3
  · rw [ite_p c3]; exact cz_3 a1 a2 a3 a4 a5
  rw [ite_n c3]
  by_cases c4 : a0 &&& 63 = 4
  · rw [ite_p c4]; exact cz_4 a1 a2 a3 a4 a5
  rw [ite_n c4]
  by_cases c5 : a0 &&& 63 = 5
  · rw [ite_p c5]; exact cz_5 a1 a2 a3 a4 a5
  rw [ite_n c5]
  by_cases c6 : a0 &&& 63 = 6
  · rw [ite_p c6]; exact cz_6 a1 a2 a3 a4 a5
  rw [ite_n c6]
  by_cases c7 : a0 &&& 63 = 7
  · rw [ite_p c7]; exact cz_7 a1 a2 a3 a4 a5
  rw [ite_n c7]
  by_cases c8 : a0 &&& 63 = 8
  · rw [ite_p c8]; exact cz_8 a1 a2 a3 a4 a5
  rw [ite_n c8]
  by_cases c9 : a0 &&& 63 = 9
  · rw [ite_p c9]; exact cz_9 a1 a2 a3 a4 a5
  rw [ite_n c9]
  by_cases c10 : a0 &&& 63 = 10
  · rw [ite_p c10]; exact cz_10 a1 a2 a3 a4 a5
  rw [ite_n c10]
  by_cases c11 : a0 &&& 63 = 11
  · rw [ite_p c11]; exact cz_11 a1 a2 a3 a4 a5
  rw [ite_n c11]
  by_cases c12 : a0 &&& 63 = 12
  · rw [ite_p c12]; exact cz_12 a1 a2 a3 a4 a5
  rw [ite_n c12]
  by_cases c13 : a0 &&& 63 = 13
  · rw [ite_p c13]; exact cz_13 a1 a2 a3 a4 a5
  rw [ite_n c13]
  by_cases c14 : a0 &&& 63 = 14
  · rw [ite_p c14]; exact cz_14 a1 a2 a3 a4 a5
  rw [ite_n c14]
  by_cases c15 : a0 &&& 63 = 15
  · rw [ite_p c15]; exact cz_15 a1 a2 a3 a4 a5
  rw [ite_n c15]
  by_cases c16 : a0 &&& 63 = 16
  · rw [ite_p c16]; exact cz_16 a1 a2 a3 a4 a5
  rw [ite_n c16]
  by_cases c17 : a0 &&& 63 = 17
  · rw [ite_p c17]; exact cz_17 a1 a2 a3 a4 a5
  rw [ite_n c17]
  by_cases c18 : a0 &&& 63 = 18
  · rw [ite_p c18]; exact cz_18 a1 a2 a3 a4 a5
  rw [ite_n c18]
  by_cases c19 : a0 &&& 63 = 19
  · rw [ite_p c19]; exact cz_19 a1 a2 a3 a4 a5
  rw [ite_n c19]
  by_cases c20 : a0 &&& 63 = 20
  · rw [ite_p c20]; exact cz_20 a1 a2 a3 a4 a5
  rw [ite_n c20]
  by_cases c21 : a0 &&& 63 = 21
  · rw [ite_p c21]; exact cz_21 a1 a2 a3 a4 a5
  rw [ite_n c21]
  by_cases c22 : a0 &&& 63 = 22
  · rw [ite_p c22]; exact cz_22 a1 a2 a3 a4 a5
  rw [ite_n c22]
  by_cases c23 : a0 &&& 63 = 23
  · rw [ite_p c23]; exact cz_23 a1 a2 a3 a4 a5
  rw [ite_n c23]
  by_cases c24 : a0 &&& 63 = 24
  · rw [ite_p c24]; exact cz_24 a1 a2 a3 a4 a5
  rw [ite_n c24]
  by_cases c25 : a0 &&& 63 = 25
  · rw [ite_p c25]; exact cz_25 a1 a2 a3 a4 a5
  rw [ite_n c25]
  by_cases c26 : a0 &&& 63 = 26
  · rw [ite_p c26]; exact cz_26 a1 a2 a3 a4 a5
  rw [ite_n c26]
  by_cases c27 : a0 &&& 63 = 27
  · rw [ite_p c27]; exact cz_27 a1 a2 a3 a4 a5
  rw [ite_n c27]
  by_cases c28 : a0 &&& 63 = 28
  · rw [ite_p c28]; exact cz_28 a1 a2 a3 a4 a5
  rw [ite_n c28]
  by_cases c29 : a0 &&& 63 = 29
  · rw [ite_p c29]; exact cz_29 a1 a2 a3 a4 a5
  rw [ite_n c29]
  by_cases c30 : a0 &&& 63 = 30
  · rw [ite_p c30]; exact cz_30 a1 a2 a3 a4 a5
  rw [ite_n c30]
  by_cases c31 : a0 &&& 63 = 31
  · rw [ite_p c31]; exact cz_31 a1 a2 a3 a4 a5
  rw [ite_n c31]
  by_cases c32 : a0 &&& 63 = 32
  · rw [ite_p c32]; exact cz_32 a1 a2 a3 a4 a5
  rw [ite_n c32]
  by_cases c33 : a0 &&& 63 = 33
  · rw [ite_p c33]; exact cz_33 a1 a2 a3 a4 a5
  rw [ite_n c33]
  by_cases c34 : a0 &&& 63 = 34
  · rw [ite_p c34]; exact cz_34 a1 a2 a3 a4 a5
  rw [ite_n c34]
  by_cases c35 : a0 &&& 63 = 35
  · rw [ite_p c35]; exact cz_35 a1 a2 a3 a4 a5
  rw [ite_n c35]
  by_cases c36 : a0 &&& 63 = 36
  · rw [ite_p c36]; exact cz_36 a1 a2 a3 a4 a5
  rw [ite_n c36]
  by_cases c37 : a0 &&& 63 = 37
  · rw [ite_p c37]; exact cz_37 a1 a2 a3 a4 a5
  rw [ite_n c37]
  by_cases c38 : a0 &&& 63 = 38
  · rw [ite_p c38]; exact cz_38 a1 a2 a3 a4 a5
  rw [ite_n c38]
  by_cases c39 : a0 &&& 63 = 39
  · rw [ite_p c39]; exact cz_39 a1 a2 a3 a4 a5
  rw [ite_n c39]
  by_cases c40 : a0 &&& 63 = 40
  · rw [ite_p c40]; exact cz_40 a1 a2 a3 a4 a5
  rw [ite_n c40]
  by_cases c41 : a0 &&& 63 = 41
  · rw [ite_p c41]; exact cz_41 a1 a2 a3 a4 a5
  rw [ite_n c41]
  by_cases c42 : a0 &&& 63 = 42
  · rw [ite_p c42]; exact cz_42 a1 a2 a3 a4 a5
  rw [ite_n c42]
  by_cases c43 : a0 &&& 63 = 43
  · rw [ite_p c43]; exact cz_43 a1 a2 a3 a4 a5
  rw [ite_n c43]
  by_cases c44 : a0 &&& 63 = 44
  · rw [ite_p c44]; exact cz_44 a1 a2 a3 a4 a5
  rw [ite_n c44]
  by_cases c45 : a0 &&& 63 = 45
  · rw [ite_p c45]; exact cz_45 a1 a2 a3 a4 a5
  rw [ite_n c45]
  by_cases c46 : a0 &&& 63 = 46
  · rw [ite_p c46]; exact cz_46 a1 a2 a3 a4 a5
  rw [ite_n c46]
  by_cases c47 : a0 &&& 63 = 47
  · rw [ite_p c47]; exact cz_47 a1 a2 a3 a4 a5
  rw [ite_n c47]
  by_cases c48 : a0 &&& 63 = 48
  · rw [ite_p c48]; exact cz_48 a1 a2 a3 a4 a5
  rw [ite_n c48]
  by_cases c49 : a0 &&& 63 = 49
  · rw [ite_p c49]; exact cz_49 a1 a2 a3 a4 a5
  rw [ite_n c49]
  by_cases c50 : a0 &&& 63 = 50
  · rw [ite_p c50]; exact cz_50 a1 a2 a3 a4 a5
  rw [ite_n c50]
  by_cases c51 : a0 &&& 63 = 51
  · rw [ite_p c51]; exact cz_51 a1 a2 a3 a4 a5
  rw [ite_n c51]
  by_cases c52 : a0 &&& 63 = 52
  · rw [ite_p c52]; exact cz_52 a1 a2 a3 a4 a5
  rw [ite_n c52]
  by_cases c53 : a0 &&& 63 = 53
  · rw [ite_p c53]; exact cz_53 a1 a2 a3 a4 a5
  rw [ite_n c53]
  by_cases c54 : a0 &&& 63 = 54
  · rw [ite_p c54]; exact cz_54 a1 a2 a3 a4 a5
  rw [ite_n c54]
  by_cases c55 : a0 &&& 63 = 55
  · rw [ite_p c55]; exact cz_55 a1 a2 a3 a4 a5
  rw [ite_n c55]
  exact ⟨MZ, MZ, rfl⟩
