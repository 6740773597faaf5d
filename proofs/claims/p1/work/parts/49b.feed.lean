/-! feed -/
theorem i32_600 : ∀ i : Fin 300, ¬ (600 : Int32) ≤ Int32.ofNat i.1 ∧ okb (Int32.ofNat i.1) 600 = true := by decide +kernel
theorem apc_s {f n : Nat} {x x2 : Int32} {M : Mem} (h : rd M 0 1 = Int32.ofNat n) (hn : n < 300) (h2 : ¬ x2 < 0) : ∃ M', mX6_append_l3 0 (f + 1) x x2 M = mX6_append_l3 0 f x (x2 + (-8 : Int32)) M' ∧ rd M' 0 1 = Int32.ofNat (n + 1) := by
  obtain ⟨c1, c2⟩ := i32_600 ⟨n, hn⟩
  refine ⟨_, ?_, ?_⟩
  rotate_left
  · show mX6_append_b3 0 (mX6_append_l3 0 f) x x2 M = _
    unfold mX6_append_b3 ite2 chk bnd
    rw [if_neg h2, h, if_neg c1, if_pos c2]
    rfl
  · show (if (0 : Nat) = 0 then upd _ 1 _ else _) 1 = _
    rw [if_pos rfl]
    show rd M 0 1 + (1 : Int32) = _
    rw [h]
    exact i32_s ⟨n, hn⟩
theorem apm_s {f n : Nat} {x x2 : Int32} {M : Mem} (h : rd M 135 7 = Int32.ofNat n) (hn : n < 300) (h2 : ¬ x2 < 0) : ∃ M', mX7_append_l3 135 (f + 1) x x2 M = mX7_append_l3 135 f x (x2 + (-8 : Int32)) M' ∧ rd M' 135 7 = Int32.ofNat (n + 1) := by
  obtain ⟨c1, c2⟩ := i32_600 ⟨n, hn⟩
  refine ⟨_, ?_, ?_⟩
  rotate_left
  · show mX7_append_b3 135 (mX7_append_l3 135 f) x x2 M = _
    unfold mX7_append_b3 ite2 chk bnd
    rw [if_neg h2, h, if_pos c2]
  · show (if (135 : Nat) = 135 then upd _ 7 _ else _) 7 = _
    rw [if_pos rfl]
    show rd M 135 7 + (1 : Int32) = _
    rw [h]
    exact i32_s ⟨n, hn⟩
theorem apc {n : Nat} {x : Int32} {M : Mem} (h : rd M 0 1 = Int32.ofNat n) (hn : n < 290) : ∃ M', mX6_append 0 x M = some (M', ()) ∧ rd M' 0 1 = Int32.ofNat (n + 4) := by
  obtain ⟨M1, e1, h1⟩ := apc_s (f := 4999) (x := x) (x2 := 24) h (by omega) (by decide)
  obtain ⟨M2, e2, h2⟩ := apc_s (f := 4998) (x := x) (x2 := 24 + (-8 : Int32)) h1 (by omega) (by decide)
  obtain ⟨M3, e3, h3⟩ := apc_s (f := 4997) (x := x) (x2 := 24 + (-8 : Int32) + (-8 : Int32)) h2 (by omega) (by decide)
  obtain ⟨M4, e4, h4⟩ := apc_s (f := 4996) (x := x) (x2 := 24 + (-8 : Int32) + (-8 : Int32) + (-8 : Int32)) h3 (by omega) (by decide)
  refine ⟨M4, ?_, h4⟩
  unfold mX6_append
  rw [show (5000 : Nat) = 4999 + 1 from rfl, e1, show (4999 : Nat) = 4998 + 1 from rfl, e2, show (4998 : Nat) = 4997 + 1 from rfl, e3, show (4997 : Nat) = 4996 + 1 from rfl, e4]
  show mX6_append_b3 0 (mX6_append_l3 0 4995) x _ M4 = _
  unfold mX6_append_b3 ite2
  rw [if_pos (by decide)]
theorem apm {n : Nat} {x : Int32} {M : Mem} (h : rd M 135 7 = Int32.ofNat n) (hn : n < 290) : ∃ M', mX7_append 135 x M = some (M', ()) ∧ rd M' 135 7 = Int32.ofNat (n + 4) := by
  obtain ⟨M1, e1, h1⟩ := apm_s (f := 4999) (x := x) (x2 := 24) h (by omega) (by decide)
  obtain ⟨M2, e2, h2⟩ := apm_s (f := 4998) (x := x) (x2 := 24 + (-8 : Int32)) h1 (by omega) (by decide)
  obtain ⟨M3, e3, h3⟩ := apm_s (f := 4997) (x := x) (x2 := 24 + (-8 : Int32) + (-8 : Int32)) h2 (by omega) (by decide)
  obtain ⟨M4, e4, h4⟩ := apm_s (f := 4996) (x := x) (x2 := 24 + (-8 : Int32) + (-8 : Int32) + (-8 : Int32)) h3 (by omega) (by decide)
  refine ⟨M4, ?_, h4⟩
  unfold mX7_append
  rw [show (5000 : Nat) = 4999 + 1 from rfl, e1, show (4999 : Nat) = 4998 + 1 from rfl, e2, show (4998 : Nat) = 4997 + 1 from rfl, e3, show (4997 : Nat) = 4996 + 1 from rfl, e4]
  show mX7_append_b3 135 (mX7_append_l3 135 4995) x _ M4 = _
  unfold mX7_append_b3 ite2
  rw [if_pos (by decide)]
theorem cz_0 (a1 a2 a3 a4 a5 : Int32) : ∃ M' N', mlc_0 a1 a2 a3 a4 a5 MZ MZ = some (M', N') := by
  obtain ⟨M1, ec1, hc1⟩ := apc (n := 0) (x := a1) (show rd MZ 0 1 = Int32.ofNat 0 from rfl) (by omega)
  obtain ⟨M2, ec2, hc2⟩ := apc (n := 4) (x := a2) hc1 (by omega)
  obtain ⟨M3, ec3, hc3⟩ := apc (n := 8) (x := a3) hc2 (by omega)
  obtain ⟨M4, ec4, hc4⟩ := apc (n := 12) (x := a4) hc3 (by omega)
  obtain ⟨M5, ec5, hc5⟩ := apc (n := 16) (x := a5) hc4 (by omega)
  obtain ⟨N1, em1, hm1⟩ := apm (n := 0) (x := a1) (show rd MF 135 7 = Int32.ofNat 0 from rfl) (by omega)
  obtain ⟨N2, em2, hm2⟩ := apm (n := 4) (x := a2) hm1 (by omega)
  obtain ⟨N3, em3, hm3⟩ := apm (n := 8) (x := a3) hm2 (by omega)
  obtain ⟨N4, em4, hm4⟩ := apm (n := 12) (x := a4) hm3 (by omega)
  obtain ⟨N5, em5, hm5⟩ := apm (n := 16) (x := a5) hm4 (by omega)
  refine ⟨M5, N5, ?_⟩
  have f1 : mX6_feed 0 a1 a2 a3 a4 a5 MZ = some (M5, Int32.ofNat 20) := by
    unfold mX6_feed ite2
    rw [if_pos (by decide +kernel), ec1]
    show cal (mX6_append 0 a2 M1) _ = _
    rw [ec2]
    show cal (mX6_append 0 a3 M2) _ = _
    rw [ec3]
    show cal (mX6_append 0 a4 M3) _ = _
    rw [ec4]
    show cal (mX6_append 0 a5 M4) _ = _
    rw [ec5]
    show some (M5, rd M5 0 1) = _
    rw [hc5]
  have f2 : mX7_feed 135 a1 a2 a3 a4 a5 MZ = some (N5, Int32.ofNat 20) := by
    unfold mX7_feed bnd ite2
    rw [if_pos (by decide +kernel)]
    show cal (mX7_append 135 a1 MF) _ = _
    rw [em1]
    show cal (mX7_append 135 a2 N1) _ = _
    rw [em2]
    show cal (mX7_append 135 a3 N2) _ = _
    rw [em3]
    show cal (mX7_append 135 a4 N3) _ = _
    rw [em4]
    show cal (mX7_append 135 a5 N4) _ = _
    rw [em5]
    show some (N5, rd N5 135 7) = _
    rw [hm5]
  unfold mlc_0
  rw [f1]
  show cal (mX7_feed 135 a1 a2 a3 a4 a5 MZ) _ = _
  rw [f2]
  show ite2 (Int32.ofNat 20 = Int32.ofNat 20) _ _ = _
  unfold ite2
  rw [if_pos rfl]
theorem all_case (a0 a1 a2 a3 a4 a5 : Int32) : ∃ M' N', mcase a0 a1 a2 a3 a4 a5 MZ MZ = some (M', N') := by
  unfold mcase ite2
  split
  · exact cz_0 a1 a2 a3 a4 a5
  split
  · exact cz_1 a1 a2 a3 a4 a5
  split
  · exact cz_2 a1 a2 a3 a4 a5
  split
  · exact cz_3 a1 a2 a3 a4 a5
  split
  · exact cz_4 a1 a2 a3 a4 a5
  split
  · exact cz_5 a1 a2 a3 a4 a5
  split
  · exact cz_6 a1 a2 a3 a4 a5
  split
  · exact cz_7 a1 a2 a3 a4 a5
  split
  · exact cz_8 a1 a2 a3 a4 a5
  split
  · exact cz_9 a1 a2 a3 a4 a5
  split
  · exact cz_10 a1 a2 a3 a4 a5
  split
  · exact cz_11 a1 a2 a3 a4 a5
  split
  · exact cz_12 a1 a2 a3 a4 a5
  split
  · exact cz_13 a1 a2 a3 a4 a5
  split
  · exact cz_14 a1 a2 a3 a4 a5
  split
  · exact cz_15 a1 a2 a3 a4 a5
  split
  · exact cz_16 a1 a2 a3 a4 a5
  split
  · exact cz_17 a1 a2 a3 a4 a5
  split
  · exact cz_18 a1 a2 a3 a4 a5
  split
  · exact cz_19 a1 a2 a3 a4 a5
  split
  · exact cz_20 a1 a2 a3 a4 a5
  split
  · exact cz_21 a1 a2 a3 a4 a5
  split
  · exact cz_22 a1 a2 a3 a4 a5
  split
  · exact cz_23 a1 a2 a3 a4 a5
  split
  · exact cz_24 a1 a2 a3 a4 a5
  split
  · exact cz_25 a1 a2 a3 a4 a5
  split
  · exact cz_26 a1 a2 a3 a4 a5
  split
  · exact cz_27 a1 a2 a3 a4 a5
  split
  · exact cz_28 a1 a2 a3 a4 a5
  split
  · exact cz_29 a1 a2 a3 a4 a5
  split
  · exact cz_30 a1 a2 a3 a4 a5
  split
  · exact cz_31 a1 a2 a3 a4 a5
  split
  · exact cz_32 a1 a2 a3 a4 a5
  split
  · exact cz_33 a1 a2 a3 a4 a5
  split
  · exact cz_34 a1 a2 a3 a4 a5
  split
  · exact cz_35 a1 a2 a3 a4 a5
  split
  · exact cz_36 a1 a2 a3 a4 a5
  split
  · exact cz_37 a1 a2 a3 a4 a5
  split
  · exact cz_38 a1 a2 a3 a4 a5
  split
  · exact cz_39 a1 a2 a3 a4 a5
  split
  · exact cz_40 a1 a2 a3 a4 a5
  split
  · exact cz_41 a1 a2 a3 a4 a5
  split
  · exact cz_42 a1 a2 a3 a4 a5
  split
  · exact cz_43 a1 a2 a3 a4 a5
  split
  · exact cz_44 a1 a2 a3 a4 a5
  split
  · exact cz_45 a1 a2 a3 a4 a5
  split
  · exact cz_46 a1 a2 a3 a4 a5
  split
  · exact cz_47 a1 a2 a3 a4 a5
  split
  · exact cz_48 a1 a2 a3 a4 a5
  split
  · exact cz_49 a1 a2 a3 a4 a5
  split
  · exact cz_50 a1 a2 a3 a4 a5
  split
  · exact cz_51 a1 a2 a3 a4 a5
  split
  · exact cz_52 a1 a2 a3 a4 a5
  split
  · exact cz_53 a1 a2 a3 a4 a5
  split
  · exact cz_54 a1 a2 a3 a4 a5
  split
  · exact cz_55 a1 a2 a3 a4 a5
  exact ⟨MZ, MZ, rfl⟩
