section LC
variable {p : Program} {l : Launch} {e : Env} {s : State} {m : MethodId} {args : Array Value} {below : List Frame} {meth : Method} {c : Code} {b L : Nat} {xs : Nat → Int32} {G : GT} {kd' : Nat → Nat × Nat} {ad' : Nat → Nat} {cells slots : Nat} {Q : State → Prop}
/-- the law stands at pc, its locals as at the loop's head, the class's world any -/
def AtW (p : Program) (l : Launch) (e : Env) (s : State) (m : MethodId) (args : Array Value) (below : List Frame) (meth : Method) (c : Code) (L : Nat) (xs : Nat → Int32) (G : GT) (kd' : Nat → Nat × Nat) (ad' : Nat → Nat) (b : Nat) (i : Int32) (M N : Mem) (Q : State → Prop) (cells slots pc : Nat) : Prop :=
  ∀ (kd : Nat → Nat × Nat) (ad : Nat → Nat) (H : Heap) (locs : List Loc) (ls : Array Slot), Lx p l s m args meth c b L xs G kd kd' ad ad' → Sb kd (rd M 133 0) → Inv G kd ad s.heap M H locs → Inv G kd' ad' s.heap N H locs → lv_has ls 10 [(0, .ref b), (1, .ref (ad 0)), (2, .ref (ad' 135)), (3, .ref (ad 152)), (4, .ref (ad 153)), (5, .int i)] → W p l e room_1 s m args below meth c H locs cells slots Q (F0 m pc ls [])
def mlc_0 (a1 a2 a3 a4 a5 : Int32) (M N : Mem) : Option (Mem × Mem) := cal (mX6_feed 0 a1 a2 a3 a4 a5 M) (fun M3 r2 => cal (mX7_feed 135 a1 a2 a3 a4 a5 N) (fun N6 r5 => chk (decide (rd M3 133 0 = rd M 133 0)) (some (M3, N6))))
set_option maxHeartbeats 4000000 in
set_option maxRecDepth 100000 in
theorem lc_0 (hc : cells + 64 ≤ 601024 ∧ slots + 4096 ≤ 7293034) {x5 a0 a1 a2 a3 a4 a5 : Int32} (hs : Sc xs L x5 a0 a1 a2 a3 a4 a5) {M N M' N' : Mem} (hf : mlc_0 a1 a2 a3 a4 a5 M N = some (M', N')) (hk : AtW p l e s m args below meth c L xs G kd' ad' b x5 M' N' Q (cells + 64) (slots + 4096) 1738) : AtW p l e s m args below meth c L xs G kd' ad' b x5 M N Q cells slots 284 := by
  intro kd ad H locs ls C hS hI hJ hl
  obtain ⟨hx, hb, hml, hown, hts, hK, hap, hap2, hsx, hsx2, hnc, hst, hA, hd1, hd2, hX, hbl, hbA, hk0, hLo, hk1, hk3, hk2⟩ := id C
  unfold mlc_0 at hf
  refine lv_aload_n hx hb (dc tbL_law_0_k 25 rfl) rfl (lv_at hl 1 rfl) ?_
  refine lv_aload_n hx hb (dc tbL_law_0_k 26 rfl) rfl (lv_at hl 0 rfl) ?_
  refine lv_iload hx hb (dc tbL_law_0_k 27 rfl) (lv_at hl 5 rfl) ?_
  refine lv_iconst (v := 1) hx hb (dc tbL_law_0_k 28 rfl) ic_1 ?_
  refine lv_iadd hx hb (dc tbL_law_0_k 29 rfl) ?_
  refine l_sld hx hb hX hbl hbA hI hs.2.1.1 hs.2.1.2 (dc tbL_law_0_k 30 rfl) ?_
  refine lv_aload_n hx hb (dc tbL_law_0_k 31 rfl) rfl (lv_at hl 0 rfl) ?_
  refine lv_iload hx hb (dc tbL_law_0_k 32 rfl) (lv_at hl 5 rfl) ?_
  refine lv_iconst (v := 2) hx hb (dc tbL_law_0_k 33 rfl) ic_2 ?_
  refine lv_iadd hx hb (dc tbL_law_0_k 34 rfl) ?_
  refine l_sld hx hb hX hbl hbA hI hs.2.2.1.1 hs.2.2.1.2 (dc tbL_law_0_k 35 rfl) ?_
  refine lv_aload_n hx hb (dc tbL_law_0_k 36 rfl) rfl (lv_at hl 0 rfl) ?_
  refine lv_iload hx hb (dc tbL_law_0_k 37 rfl) (lv_at hl 5 rfl) ?_
  refine lv_iconst (v := 3) hx hb (dc tbL_law_0_k 38 rfl) ic_3 ?_
  refine lv_iadd hx hb (dc tbL_law_0_k 39 rfl) ?_
  refine l_sld hx hb hX hbl hbA hI hs.2.2.2.1.1 hs.2.2.2.1.2 (dc tbL_law_1_k 0 rfl) ?_
  refine lv_aload_n hx hb (dc tbL_law_1_k 1 rfl) rfl (lv_at hl 0 rfl) ?_
  refine lv_iload hx hb (dc tbL_law_1_k 2 rfl) (lv_at hl 5 rfl) ?_
  refine lv_iconst (v := 4) hx hb (dc tbL_law_1_k 3 rfl) ic_4 ?_
  refine lv_iadd hx hb (dc tbL_law_1_k 4 rfl) ?_
  refine l_sld hx hb hX hbl hbA hI hs.2.2.2.2.1.1 hs.2.2.2.2.1.2 (dc tbL_law_1_k 5 rfl) ?_
  refine lv_aload_n hx hb (dc tbL_law_1_k 6 rfl) rfl (lv_at hl 0 rfl) ?_
  refine lv_iload hx hb (dc tbL_law_1_k 7 rfl) (lv_at hl 5 rfl) ?_
  refine lv_iconst (v := 5) hx hb (dc tbL_law_1_k 8 rfl) ic_5 ?_
  refine lv_iadd hx hb (dc tbL_law_1_k 9 rfl) ?_
  refine l_sld hx hb hX hbl hbA hI hs.2.2.2.2.2.1 hs.2.2.2.2.2.2 (dc tbL_law_1_k 10 rfl) ?_
  obtain ⟨M3, r2, q1, hf⟩ := cal_s hf
  refine l_calli (g_runV hx hb hml hown hts hK hap hsx hI (tX6_feed l hk0 q1 H.size) cv_X6_feed q_t2_110 rfl rfl ⟨Nat.le_of_ble_eq_true rfl, Nat.le_of_ble_eq_true rfl⟩ hk0.1 (by simp) rfl rfl rfl hl.1 rfl (Nat.le_of_ble_eq_true rfl) (dc tbL_law_1_k 11 rfl) ⟨by have := hc.1; show _ ≤ 601024; omega, by have := hc.2; show _ ≤ 7293034; omega⟩) hI hJ hA hd1 (fun H locs hI hJ => ?_)
  refine lv_pop hx hb (dc tbL_law_1_k 12 rfl) rfl ?_
  refine lv_aload_n hx hb (dc tbL_law_1_k 13 rfl) rfl (lv_at hl 2 rfl) ?_
  refine lv_aload_n hx hb (dc tbL_law_1_k 14 rfl) rfl (lv_at hl 0 rfl) ?_
  refine lv_iload hx hb (dc tbL_law_1_k 15 rfl) (lv_at hl 5 rfl) ?_
  refine lv_iconst (v := 1) hx hb (dc tbL_law_1_k 16 rfl) ic_1 ?_
  refine lv_iadd hx hb (dc tbL_law_1_k 17 rfl) ?_
  refine l_sld hx hb hX hbl hbA hI hs.2.1.1 hs.2.1.2 (dc tbL_law_1_k 18 rfl) ?_
  refine lv_aload_n hx hb (dc tbL_law_1_k 19 rfl) rfl (lv_at hl 0 rfl) ?_
  refine lv_iload hx hb (dc tbL_law_1_k 20 rfl) (lv_at hl 5 rfl) ?_
  refine lv_iconst (v := 2) hx hb (dc tbL_law_1_k 21 rfl) ic_2 ?_
  refine lv_iadd hx hb (dc tbL_law_1_k 22 rfl) ?_
  refine l_sld hx hb hX hbl hbA hI hs.2.2.1.1 hs.2.2.1.2 (dc tbL_law_1_k 23 rfl) ?_
  refine lv_aload_n hx hb (dc tbL_law_1_k 24 rfl) rfl (lv_at hl 0 rfl) ?_
  refine lv_iload hx hb (dc tbL_law_1_k 25 rfl) (lv_at hl 5 rfl) ?_
  refine lv_iconst (v := 3) hx hb (dc tbL_law_1_k 26 rfl) ic_3 ?_
  refine lv_iadd hx hb (dc tbL_law_1_k 27 rfl) ?_
  refine l_sld hx hb hX hbl hbA hI hs.2.2.2.1.1 hs.2.2.2.1.2 (dc tbL_law_1_k 28 rfl) ?_
  refine lv_aload_n hx hb (dc tbL_law_1_k 29 rfl) rfl (lv_at hl 0 rfl) ?_
  refine lv_iload hx hb (dc tbL_law_1_k 30 rfl) (lv_at hl 5 rfl) ?_
  refine lv_iconst (v := 4) hx hb (dc tbL_law_1_k 31 rfl) ic_4 ?_
  refine lv_iadd hx hb (dc tbL_law_1_k 32 rfl) ?_
  refine l_sld hx hb hX hbl hbA hI hs.2.2.2.2.1.1 hs.2.2.2.2.1.2 (dc tbL_law_1_k 33 rfl) ?_
  refine lv_aload_n hx hb (dc tbL_law_1_k 34 rfl) rfl (lv_at hl 0 rfl) ?_
  refine lv_iload hx hb (dc tbL_law_1_k 35 rfl) (lv_at hl 5 rfl) ?_
  refine lv_iconst (v := 5) hx hb (dc tbL_law_1_k 36 rfl) ic_5 ?_
  refine lv_iadd hx hb (dc tbL_law_1_k 37 rfl) ?_
  refine l_sld hx hb hX hbl hbA hI hs.2.2.2.2.2.1 hs.2.2.2.2.2.2 (dc tbL_law_1_k 38 rfl) ?_
  obtain ⟨N6, r5, q4, hf⟩ := cal_s hf
  refine l_calli (g_runV hx hb hml hown hts hK hap2 hsx2 hJ (tX7_feed l hk2 q4 H.size) cv_X7_feed q_t7_174 rfl rfl ⟨Nat.le_of_ble_eq_true rfl, Nat.le_of_ble_eq_true rfl⟩ hk2.1 (by simp) rfl rfl rfl hl.1 rfl (Nat.le_of_ble_eq_true rfl) (dc tbL_law_1_k 39 rfl) ⟨by have := hc.1; show _ ≤ 601024; omega, by have := hc.2; show _ ≤ 7293034; omega⟩) hJ hI hA.symm hd2 (fun H locs hJ hI => ?_)
  refine lv_pop hx hb (dc tbL_law_2_k 0 rfl) rfl ?_
  refine lv_goto (tgt := 1738) hx hb (dc tbL_law_2_k 1 rfl) rfl ?_
  obtain ⟨h7, hf⟩ := chk_s hf
  cases hf
  refine W.widen (k := cells + 64) (n := slots + 4096) (by omega) (by omega) ?_
  exact hk _ _ _ _ _ C (by rw [of_decide_eq_true h7]; exact hS) hI hJ (lv_sub hl [0, 1, 2, 3, 4, 5] rfl)
def mlc_1 (a1 a2 a3 a4 a5 : Int32) (M N : Mem) : Option (Mem × Mem) := calh (mL_load 0 152 a1 M) (fun M3 r2 => cal (mX7_load 135 a1 N) (fun N6 r5 => chk (decide (rd M3 133 0 = rd M 133 0)) (some (M3, N6))))
set_option maxHeartbeats 4000000 in
set_option maxRecDepth 100000 in
theorem lc_1 (hc : cells + 64 ≤ 601024 ∧ slots + 4096 ≤ 7293034) {x5 a0 a1 a2 a3 a4 a5 : Int32} (hs : Sc xs L x5 a0 a1 a2 a3 a4 a5) {M N M' N' : Mem} (hf : mlc_1 a1 a2 a3 a4 a5 M N = some (M', N')) (hk : AtW p l e s m args below meth c L xs G kd' ad' b x5 M' N' Q (cells + 64) (slots + 4096) 1738) : AtW p l e s m args below meth c L xs G kd' ad' b x5 M N Q cells slots 357 := by
  intro kd ad H locs ls C hS hI hJ hl
  obtain ⟨hx, hb, hml, hown, hts, hK, hap, hap2, hsx, hsx2, hnc, hst, hA, hd1, hd2, hX, hbl, hbA, hk0, hLo, hk1, hk3, hk2⟩ := id C
  unfold mlc_1 at hf
  refine lv_aload_n hx hb (dc tbL_law_2_k 2 rfl) rfl (lv_at hl 1 rfl) ?_
  refine lv_aload_n hx hb (dc tbL_law_2_k 3 rfl) rfl (lv_at hl 0 rfl) ?_
  refine lv_iload hx hb (dc tbL_law_2_k 4 rfl) (lv_at hl 5 rfl) ?_
  refine lv_iconst (v := 1) hx hb (dc tbL_law_2_k 5 rfl) ic_1 ?_
  refine lv_iadd hx hb (dc tbL_law_2_k 6 rfl) ?_
  refine l_sld hx hb hX hbl hbA hI hs.2.1.1 hs.2.1.2 (dc tbL_law_2_k 7 rfl) ?_
  refine lv_aload_n hx hb (dc tbL_law_2_k 8 rfl) rfl (lv_at hl 3 rfl) ?_
  obtain ⟨M3, r2, q1, hf⟩ := calh_s hf
  refine l_callH (g_runH hx hb hml hown hts hK hap hsx hnc hI (tL_load l hst hk0 hk1 q1 H.size) ch_L_load q_t5_98 rfl rfl ⟨Nat.le_of_ble_eq_true rfl, Nat.le_of_ble_eq_true rfl⟩ rfl hl.1 rfl (Nat.le_of_ble_eq_true rfl) (dc tbL_law_2_k 9 rfl) ⟨by have := hc.1; show _ ≤ 601024; omega, by have := hc.2; show _ ≤ 7293034; omega⟩) hI hJ hA hd1 (fun H locs hI hJ => ?_)
  refine lv_istore (lv' := [(6, .int r2), (0, .ref b), (1, .ref (ad 0)), (2, .ref (ad' 135)), (3, .ref (ad 152)), (4, .ref (ad 153)), (5, .int x5)]) hx hb (dc tbL_law_2_k 10 rfl) hl (by decide) rfl (fun ls hl => ?_)
  refine lv_aload_n hx hb (dc tbL_law_2_k 11 rfl) rfl (lv_at hl 3 rfl) ?_
  refine lv_aload_n hx hb (dc tbL_law_2_k 12 rfl) rfl (lv_at hl 1 rfl) ?_
  refine lv_iload hx hb (dc tbL_law_2_k 13 rfl) (lv_at hl 6 rfl) ?_
  refine lv_iconst (v := 1) hx hb (dc tbL_law_2_k 14 rfl) ic_1 ?_
  refine lv_iadd hx hb (dc tbL_law_2_k 15 rfl) ?_
  refine l_sld hx hb hX hbl hbA hI hs.2.1.1 hs.2.1.2 (dc tbL_law_2_k 16 rfl) ?_
  obtain ⟨N6, r5, q4, hf⟩ := cal_s hf
  refine l_calli (g_runV hx hb hml hown hts hK hap2 hsx2 hJ (tX7_load l hk2 q4 H.size) cv_X7_load q_t7_182 rfl rfl ⟨Nat.le_of_ble_eq_true rfl, Nat.le_of_ble_eq_true rfl⟩ hk2.1 (by simp) rfl rfl rfl hl.1 rfl (Nat.le_of_ble_eq_true rfl) (dc tbL_law_2_k 17 rfl) ⟨by have := hc.1; show _ ≤ 601024; omega, by have := hc.2; show _ ≤ 7293034; omega⟩) hJ hI hA.symm hd2 (fun H locs hJ hI => ?_)
  refine lv_istore (lv' := [(7, .int r5), (6, .int r2), (0, .ref b), (1, .ref (ad 0)), (2, .ref (ad' 135)), (3, .ref (ad 152)), (4, .ref (ad 153)), (5, .int x5)]) hx hb (dc tbL_law_2_k 18 rfl) hl (by decide) rfl (fun ls hl => ?_)
  refine lv_goto (tgt := 1738) hx hb (dc tbL_law_2_k 19 rfl) rfl ?_
  obtain ⟨h7, hf⟩ := chk_s hf
  cases hf
  refine W.widen (k := cells + 64) (n := slots + 4096) (by omega) (by omega) ?_
  exact hk _ _ _ _ _ C (by rw [of_decide_eq_true h7]; exact hS) hI hJ (lv_sub hl [2, 3, 4, 5, 6, 7] rfl)
def mlc_2 (a1 a2 a3 a4 a5 : Int32) (M N : Mem) : Option (Mem × Mem) := cap (mX6_errorKind 0 M) (fun r2 => cal (mX7_errorKind 135 N) (fun N6 r5 => some (M, N6)))
set_option maxHeartbeats 4000000 in
set_option maxRecDepth 100000 in
theorem lc_2 (hc : cells + 64 ≤ 601024 ∧ slots + 4096 ≤ 7293034) {x5 a0 a1 a2 a3 a4 a5 : Int32} (hs : Sc xs L x5 a0 a1 a2 a3 a4 a5) {M N M' N' : Mem} (hf : mlc_2 a1 a2 a3 a4 a5 M N = some (M', N')) (hk : AtW p l e s m args below meth c L xs G kd' ad' b x5 M' N' Q (cells + 64) (slots + 4096) 1738) : AtW p l e s m args below meth c L xs G kd' ad' b x5 M N Q cells slots 385 := by
  intro kd ad H locs ls C hS hI hJ hl
  obtain ⟨hx, hb, hml, hown, hts, hK, hap, hap2, hsx, hsx2, hnc, hst, hA, hd1, hd2, hX, hbl, hbA, hk0, hLo, hk1, hk3, hk2⟩ := id C
  unfold mlc_2 at hf
  refine lv_aload_n hx hb (dc tbL_law_2_k 20 rfl) rfl (lv_at hl 1 rfl) ?_
  obtain ⟨r2, q1, hf⟩ := cap_s hf
  refine l_calli (g_runV hx hb hml hown hts hK hap hsx hI (tX6_errorKind l hk0 q1 H.size) cv_X6_errorKind q_t2_118 rfl rfl ⟨Nat.le_of_ble_eq_true rfl, Nat.le_of_ble_eq_true rfl⟩ hk0.1 (by simp) rfl rfl rfl hl.1 rfl (Nat.le_of_ble_eq_true rfl) (dc tbL_law_2_k 21 rfl) ⟨by have := hc.1; show _ ≤ 601024; omega, by have := hc.2; show _ ≤ 7293034; omega⟩) hI hJ hA hd1 (fun H locs hI hJ => ?_)
  refine lv_pop hx hb (dc tbL_law_2_k 22 rfl) rfl ?_
  refine lv_aload_n hx hb (dc tbL_law_2_k 23 rfl) rfl (lv_at hl 2 rfl) ?_
  obtain ⟨N6, r5, q4, hf⟩ := cal_s hf
  refine l_calli (g_runV hx hb hml hown hts hK hap2 hsx2 hJ (tX7_errorKind l hk2 q4 H.size) cv_X7_errorKind q_t8_24 rfl rfl ⟨Nat.le_of_ble_eq_true rfl, Nat.le_of_ble_eq_true rfl⟩ hk2.1 (by simp) rfl rfl rfl hl.1 rfl (Nat.le_of_ble_eq_true rfl) (dc tbL_law_2_k 24 rfl) ⟨by have := hc.1; show _ ≤ 601024; omega, by have := hc.2; show _ ≤ 7293034; omega⟩) hJ hI hA.symm hd2 (fun H locs hJ hI => ?_)
  refine lv_pop hx hb (dc tbL_law_2_k 25 rfl) rfl ?_
  refine lv_goto (tgt := 1738) hx hb (dc tbL_law_2_k 26 rfl) rfl ?_
  cases hf
  refine W.widen (k := cells + 64) (n := slots + 4096) (by omega) (by omega) ?_
  exact hk _ _ _ _ _ C hS hI hJ (lv_sub hl [0, 1, 2, 3, 4, 5] rfl)
def mlc_3 (a1 a2 a3 a4 a5 : Int32) (M N : Mem) : Option (Mem × Mem) := cap (mX6_errorPosition 0 M) (fun r2 => cal (mX7_errorPosition 135 N) (fun N6 r5 => some (M, N6)))
set_option maxHeartbeats 4000000 in
set_option maxRecDepth 100000 in
theorem lc_3 (hc : cells + 64 ≤ 601024 ∧ slots + 4096 ≤ 7293034) {x5 a0 a1 a2 a3 a4 a5 : Int32} (hs : Sc xs L x5 a0 a1 a2 a3 a4 a5) {M N M' N' : Mem} (hf : mlc_3 a1 a2 a3 a4 a5 M N = some (M', N')) (hk : AtW p l e s m args below meth c L xs G kd' ad' b x5 M' N' Q (cells + 64) (slots + 4096) 1738) : AtW p l e s m args below meth c L xs G kd' ad' b x5 M N Q cells slots 398 := by
  intro kd ad H locs ls C hS hI hJ hl
  obtain ⟨hx, hb, hml, hown, hts, hK, hap, hap2, hsx, hsx2, hnc, hst, hA, hd1, hd2, hX, hbl, hbA, hk0, hLo, hk1, hk3, hk2⟩ := id C
  unfold mlc_3 at hf
  refine lv_aload_n hx hb (dc tbL_law_2_k 27 rfl) rfl (lv_at hl 1 rfl) ?_
  obtain ⟨r2, q1, hf⟩ := cap_s hf
  refine l_calli (g_runV hx hb hml hown hts hK hap hsx hI (tX6_errorPosition l hk0 q1 H.size) cv_X6_errorPosition q_t2_122 rfl rfl ⟨Nat.le_of_ble_eq_true rfl, Nat.le_of_ble_eq_true rfl⟩ hk0.1 (by simp) rfl rfl rfl hl.1 rfl (Nat.le_of_ble_eq_true rfl) (dc tbL_law_2_k 28 rfl) ⟨by have := hc.1; show _ ≤ 601024; omega, by have := hc.2; show _ ≤ 7293034; omega⟩) hI hJ hA hd1 (fun H locs hI hJ => ?_)
  refine lv_pop hx hb (dc tbL_law_2_k 29 rfl) rfl ?_
  refine lv_aload_n hx hb (dc tbL_law_2_k 30 rfl) rfl (lv_at hl 2 rfl) ?_
  obtain ⟨N6, r5, q4, hf⟩ := cal_s hf
  refine l_calli (g_runV hx hb hml hown hts hK hap2 hsx2 hJ (tX7_errorPosition l hk2 q4 H.size) cv_X7_errorPosition q_t8_28 rfl rfl ⟨Nat.le_of_ble_eq_true rfl, Nat.le_of_ble_eq_true rfl⟩ hk2.1 (by simp) rfl rfl rfl hl.1 rfl (Nat.le_of_ble_eq_true rfl) (dc tbL_law_2_k 31 rfl) ⟨by have := hc.1; show _ ≤ 601024; omega, by have := hc.2; show _ ≤ 7293034; omega⟩) hJ hI hA.symm hd2 (fun H locs hJ hI => ?_)
  refine lv_pop hx hb (dc tbL_law_2_k 32 rfl) rfl ?_
  refine lv_goto (tgt := 1738) hx hb (dc tbL_law_2_k 33 rfl) rfl ?_
  cases hf
  refine W.widen (k := cells + 64) (n := slots + 4096) (by omega) (by omega) ?_
  exact hk _ _ _ _ _ C hS hI hJ (lv_sub hl [0, 1, 2, 3, 4, 5] rfl)
def mlc_4 (a1 a2 a3 a4 a5 : Int32) (M N : Mem) : Option (Mem × Mem) := cap (mX6_bends 0 M) (fun r2 => cal (mX7_bends 135 N) (fun N6 r5 => some (M, N6)))
set_option maxHeartbeats 4000000 in
set_option maxRecDepth 100000 in
theorem lc_4 (hc : cells + 64 ≤ 601024 ∧ slots + 4096 ≤ 7293034) {x5 a0 a1 a2 a3 a4 a5 : Int32} (hs : Sc xs L x5 a0 a1 a2 a3 a4 a5) {M N M' N' : Mem} (hf : mlc_4 a1 a2 a3 a4 a5 M N = some (M', N')) (hk : AtW p l e s m args below meth c L xs G kd' ad' b x5 M' N' Q (cells + 64) (slots + 4096) 1738) : AtW p l e s m args below meth c L xs G kd' ad' b x5 M N Q cells slots 411 := by
  intro kd ad H locs ls C hS hI hJ hl
  obtain ⟨hx, hb, hml, hown, hts, hK, hap, hap2, hsx, hsx2, hnc, hst, hA, hd1, hd2, hX, hbl, hbA, hk0, hLo, hk1, hk3, hk2⟩ := id C
  unfold mlc_4 at hf
  refine lv_aload_n hx hb (dc tbL_law_2_k 34 rfl) rfl (lv_at hl 1 rfl) ?_
  obtain ⟨r2, q1, hf⟩ := cap_s hf
  refine l_calli (g_runV hx hb hml hown hts hK hap hsx hI (tX6_bends l hk0 q1 H.size) cv_X6_bends q_t2_126 rfl rfl ⟨Nat.le_of_ble_eq_true rfl, Nat.le_of_ble_eq_true rfl⟩ hk0.1 (by simp) rfl rfl rfl hl.1 rfl (Nat.le_of_ble_eq_true rfl) (dc tbL_law_2_k 35 rfl) ⟨by have := hc.1; show _ ≤ 601024; omega, by have := hc.2; show _ ≤ 7293034; omega⟩) hI hJ hA hd1 (fun H locs hI hJ => ?_)
  refine lv_pop hx hb (dc tbL_law_2_k 36 rfl) rfl ?_
  refine lv_aload_n hx hb (dc tbL_law_2_k 37 rfl) rfl (lv_at hl 2 rfl) ?_
  obtain ⟨N6, r5, q4, hf⟩ := cal_s hf
  refine l_calli (g_runV hx hb hml hown hts hK hap2 hsx2 hJ (tX7_bends l hk2 q4 H.size) cv_X7_bends q_t8_32 rfl rfl ⟨Nat.le_of_ble_eq_true rfl, Nat.le_of_ble_eq_true rfl⟩ hk2.1 (by simp) rfl rfl rfl hl.1 rfl (Nat.le_of_ble_eq_true rfl) (dc tbL_law_2_k 38 rfl) ⟨by have := hc.1; show _ ≤ 601024; omega, by have := hc.2; show _ ≤ 7293034; omega⟩) hJ hI hA.symm hd2 (fun H locs hJ hI => ?_)
  refine lv_pop hx hb (dc tbL_law_2_k 39 rfl) rfl ?_
  refine lv_goto (tgt := 1738) hx hb (dc tbL_law_3_k 0 rfl) rfl ?_
  cases hf
  refine W.widen (k := cells + 64) (n := slots + 4096) (by omega) (by omega) ?_
  exact hk _ _ _ _ _ C hS hI hJ (lv_sub hl [0, 1, 2, 3, 4, 5] rfl)
def mlc_5 (a1 a2 a3 a4 a5 : Int32) (M N : Mem) : Option (Mem × Mem) := cap (mX6_legs 0 M) (fun r2 => cal (mX7_legs 135 N) (fun N6 r5 => some (M, N6)))
set_option maxHeartbeats 4000000 in
set_option maxRecDepth 100000 in
theorem lc_5 (hc : cells + 64 ≤ 601024 ∧ slots + 4096 ≤ 7293034) {x5 a0 a1 a2 a3 a4 a5 : Int32} (hs : Sc xs L x5 a0 a1 a2 a3 a4 a5) {M N M' N' : Mem} (hf : mlc_5 a1 a2 a3 a4 a5 M N = some (M', N')) (hk : AtW p l e s m args below meth c L xs G kd' ad' b x5 M' N' Q (cells + 64) (slots + 4096) 1738) : AtW p l e s m args below meth c L xs G kd' ad' b x5 M N Q cells slots 424 := by
  intro kd ad H locs ls C hS hI hJ hl
  obtain ⟨hx, hb, hml, hown, hts, hK, hap, hap2, hsx, hsx2, hnc, hst, hA, hd1, hd2, hX, hbl, hbA, hk0, hLo, hk1, hk3, hk2⟩ := id C
  unfold mlc_5 at hf
  refine lv_aload_n hx hb (dc tbL_law_3_k 1 rfl) rfl (lv_at hl 1 rfl) ?_
  obtain ⟨r2, q1, hf⟩ := cap_s hf
  refine l_calli (g_runV hx hb hml hown hts hK hap hsx hI (tX6_legs l hk0 q1 H.size) cv_X6_legs q_t2_134 rfl rfl ⟨Nat.le_of_ble_eq_true rfl, Nat.le_of_ble_eq_true rfl⟩ hk0.1 (by simp) rfl rfl rfl hl.1 rfl (Nat.le_of_ble_eq_true rfl) (dc tbL_law_3_k 2 rfl) ⟨by have := hc.1; show _ ≤ 601024; omega, by have := hc.2; show _ ≤ 7293034; omega⟩) hI hJ hA hd1 (fun H locs hI hJ => ?_)
  refine lv_pop hx hb (dc tbL_law_3_k 3 rfl) rfl ?_
  refine lv_aload_n hx hb (dc tbL_law_3_k 4 rfl) rfl (lv_at hl 2 rfl) ?_
  obtain ⟨N6, r5, q4, hf⟩ := cal_s hf
  refine l_calli (g_runV hx hb hml hown hts hK hap2 hsx2 hJ (tX7_legs l hk2 q4 H.size) cv_X7_legs q_t8_40 rfl rfl ⟨Nat.le_of_ble_eq_true rfl, Nat.le_of_ble_eq_true rfl⟩ hk2.1 (by simp) rfl rfl rfl hl.1 rfl (Nat.le_of_ble_eq_true rfl) (dc tbL_law_3_k 5 rfl) ⟨by have := hc.1; show _ ≤ 601024; omega, by have := hc.2; show _ ≤ 7293034; omega⟩) hJ hI hA.symm hd2 (fun H locs hJ hI => ?_)
  refine lv_pop hx hb (dc tbL_law_3_k 6 rfl) rfl ?_
  refine lv_goto (tgt := 1738) hx hb (dc tbL_law_3_k 7 rfl) rfl ?_
  cases hf
  refine W.widen (k := cells + 64) (n := slots + 4096) (by omega) (by omega) ?_
  exact hk _ _ _ _ _ C hS hI hJ (lv_sub hl [0, 1, 2, 3, 4, 5] rfl)
def mlc_6 (a1 a2 a3 a4 a5 : Int32) (M N : Mem) : Option (Mem × Mem) := calh (mL_leg 0 152 a1 M) (fun M3 r2 => cal (mX7_leg 135 a1 N) (fun N6 r5 => chk (decide (rd M3 133 0 = rd M 133 0)) (some (M3, N6))))
set_option maxHeartbeats 4000000 in
set_option maxRecDepth 100000 in
theorem lc_6 (hc : cells + 64 ≤ 601024 ∧ slots + 4096 ≤ 7293034) {x5 a0 a1 a2 a3 a4 a5 : Int32} (hs : Sc xs L x5 a0 a1 a2 a3 a4 a5) {M N M' N' : Mem} (hf : mlc_6 a1 a2 a3 a4 a5 M N = some (M', N')) (hk : AtW p l e s m args below meth c L xs G kd' ad' b x5 M' N' Q (cells + 64) (slots + 4096) 1738) : AtW p l e s m args below meth c L xs G kd' ad' b x5 M N Q cells slots 437 := by
  intro kd ad H locs ls C hS hI hJ hl
  obtain ⟨hx, hb, hml, hown, hts, hK, hap, hap2, hsx, hsx2, hnc, hst, hA, hd1, hd2, hX, hbl, hbA, hk0, hLo, hk1, hk3, hk2⟩ := id C
  unfold mlc_6 at hf
  refine lv_aload_n hx hb (dc tbL_law_3_k 8 rfl) rfl (lv_at hl 1 rfl) ?_
  refine lv_aload_n hx hb (dc tbL_law_3_k 9 rfl) rfl (lv_at hl 0 rfl) ?_
  refine lv_iload hx hb (dc tbL_law_3_k 10 rfl) (lv_at hl 5 rfl) ?_
  refine lv_iconst (v := 1) hx hb (dc tbL_law_3_k 11 rfl) ic_1 ?_
  refine lv_iadd hx hb (dc tbL_law_3_k 12 rfl) ?_
  refine l_sld hx hb hX hbl hbA hI hs.2.1.1 hs.2.1.2 (dc tbL_law_3_k 13 rfl) ?_
  refine lv_aload_n hx hb (dc tbL_law_3_k 14 rfl) rfl (lv_at hl 3 rfl) ?_
  obtain ⟨M3, r2, q1, hf⟩ := calh_s hf
  refine l_callH (g_runH hx hb hml hown hts hK hap hsx hnc hI (tL_leg l hst hk0 hk1 q1 H.size) ch_L_leg q_t6_7 rfl rfl ⟨Nat.le_of_ble_eq_true rfl, Nat.le_of_ble_eq_true rfl⟩ rfl hl.1 rfl (Nat.le_of_ble_eq_true rfl) (dc tbL_law_3_k 15 rfl) ⟨by have := hc.1; show _ ≤ 601024; omega, by have := hc.2; show _ ≤ 7293034; omega⟩) hI hJ hA hd1 (fun H locs hI hJ => ?_)
  refine lv_istore (lv' := [(6, .int r2), (0, .ref b), (1, .ref (ad 0)), (2, .ref (ad' 135)), (3, .ref (ad 152)), (4, .ref (ad 153)), (5, .int x5)]) hx hb (dc tbL_law_3_k 16 rfl) hl (by decide) rfl (fun ls hl => ?_)
  refine lv_aload_n hx hb (dc tbL_law_3_k 17 rfl) rfl (lv_at hl 3 rfl) ?_
  refine lv_aload_n hx hb (dc tbL_law_3_k 18 rfl) rfl (lv_at hl 1 rfl) ?_
  refine lv_iload hx hb (dc tbL_law_3_k 19 rfl) (lv_at hl 6 rfl) ?_
  refine lv_iconst (v := 1) hx hb (dc tbL_law_3_k 20 rfl) ic_1 ?_
  refine lv_iadd hx hb (dc tbL_law_3_k 21 rfl) ?_
  refine l_sld hx hb hX hbl hbA hI hs.2.1.1 hs.2.1.2 (dc tbL_law_3_k 22 rfl) ?_
  obtain ⟨N6, r5, q4, hf⟩ := cal_s hf
  refine l_calli (g_runV hx hb hml hown hts hK hap2 hsx2 hJ (tX7_leg l hk2 q4 H.size) cv_X7_leg q_t8_44 rfl rfl ⟨Nat.le_of_ble_eq_true rfl, Nat.le_of_ble_eq_true rfl⟩ hk2.1 (by simp) rfl rfl rfl hl.1 rfl (Nat.le_of_ble_eq_true rfl) (dc tbL_law_3_k 23 rfl) ⟨by have := hc.1; show _ ≤ 601024; omega, by have := hc.2; show _ ≤ 7293034; omega⟩) hJ hI hA.symm hd2 (fun H locs hJ hI => ?_)
  refine lv_istore (lv' := [(7, .int r5), (6, .int r2), (0, .ref b), (1, .ref (ad 0)), (2, .ref (ad' 135)), (3, .ref (ad 152)), (4, .ref (ad 153)), (5, .int x5)]) hx hb (dc tbL_law_3_k 24 rfl) hl (by decide) rfl (fun ls hl => ?_)
  refine lv_goto (tgt := 1738) hx hb (dc tbL_law_3_k 25 rfl) rfl ?_
  obtain ⟨h7, hf⟩ := chk_s hf
  cases hf
  refine W.widen (k := cells + 64) (n := slots + 4096) (by omega) (by omega) ?_
  exact hk _ _ _ _ _ C (by rw [of_decide_eq_true h7]; exact hS) hI hJ (lv_sub hl [2, 3, 4, 5, 6, 7] rfl)
def mlc_7 (a1 a2 a3 a4 a5 : Int32) (M N : Mem) : Option (Mem × Mem) := calh (mL_isUp 0 152 a1 M) (fun M3 r2 => cal (mX7_isUp 135 a1 N) (fun N6 r5 => chk (decide (rd M3 133 0 = rd M 133 0)) (some (M3, N6))))
set_option maxHeartbeats 4000000 in
set_option maxRecDepth 100000 in
theorem lc_7 (hc : cells + 64 ≤ 601024 ∧ slots + 4096 ≤ 7293034) {x5 a0 a1 a2 a3 a4 a5 : Int32} (hs : Sc xs L x5 a0 a1 a2 a3 a4 a5) {M N M' N' : Mem} (hf : mlc_7 a1 a2 a3 a4 a5 M N = some (M', N')) (hk : AtW p l e s m args below meth c L xs G kd' ad' b x5 M' N' Q (cells + 64) (slots + 4096) 1738) : AtW p l e s m args below meth c L xs G kd' ad' b x5 M N Q cells slots 465 := by
  intro kd ad H locs ls C hS hI hJ hl
  obtain ⟨hx, hb, hml, hown, hts, hK, hap, hap2, hsx, hsx2, hnc, hst, hA, hd1, hd2, hX, hbl, hbA, hk0, hLo, hk1, hk3, hk2⟩ := id C
  unfold mlc_7 at hf
  refine lv_aload_n hx hb (dc tbL_law_3_k 26 rfl) rfl (lv_at hl 1 rfl) ?_
  refine lv_aload_n hx hb (dc tbL_law_3_k 27 rfl) rfl (lv_at hl 0 rfl) ?_
  refine lv_iload hx hb (dc tbL_law_3_k 28 rfl) (lv_at hl 5 rfl) ?_
  refine lv_iconst (v := 1) hx hb (dc tbL_law_3_k 29 rfl) ic_1 ?_
  refine lv_iadd hx hb (dc tbL_law_3_k 30 rfl) ?_
  refine l_sld hx hb hX hbl hbA hI hs.2.1.1 hs.2.1.2 (dc tbL_law_3_k 31 rfl) ?_
  refine lv_aload_n hx hb (dc tbL_law_3_k 32 rfl) rfl (lv_at hl 3 rfl) ?_
  obtain ⟨M3, r2, q1, hf⟩ := calh_s hf
  refine l_callH (g_runH hx hb hml hown hts hK hap hsx hnc hI (tL_isUp l hst hk0 hk1 q1 H.size) ch_L_isUp q_t6_32 rfl rfl ⟨Nat.le_of_ble_eq_true rfl, Nat.le_of_ble_eq_true rfl⟩ rfl hl.1 rfl (Nat.le_of_ble_eq_true rfl) (dc tbL_law_3_k 33 rfl) ⟨by have := hc.1; show _ ≤ 601024; omega, by have := hc.2; show _ ≤ 7293034; omega⟩) hI hJ hA hd1 (fun H locs hI hJ => ?_)
  refine lv_istore (lv' := [(6, .int r2), (0, .ref b), (1, .ref (ad 0)), (2, .ref (ad' 135)), (3, .ref (ad 152)), (4, .ref (ad 153)), (5, .int x5)]) hx hb (dc tbL_law_3_k 34 rfl) hl (by decide) rfl (fun ls hl => ?_)
  refine lv_aload_n hx hb (dc tbL_law_3_k 35 rfl) rfl (lv_at hl 3 rfl) ?_
  refine lv_aload_n hx hb (dc tbL_law_3_k 36 rfl) rfl (lv_at hl 1 rfl) ?_
  refine lv_iload hx hb (dc tbL_law_3_k 37 rfl) (lv_at hl 6 rfl) ?_
  refine lv_iconst (v := 1) hx hb (dc tbL_law_3_k 38 rfl) ic_1 ?_
  refine lv_iadd hx hb (dc tbL_law_3_k 39 rfl) ?_
  refine l_sld hx hb hX hbl hbA hI hs.2.1.1 hs.2.1.2 (dc tbL_law_4_k 0 rfl) ?_
  obtain ⟨N6, r5, q4, hf⟩ := cal_s hf
  refine l_calli (g_runV hx hb hml hown hts hK hap2 hsx2 hJ (tX7_isUp l hk2 q4 H.size) cv_X7_isUp q_t8_56 rfl rfl ⟨Nat.le_of_ble_eq_true rfl, Nat.le_of_ble_eq_true rfl⟩ hk2.1 (by simp) rfl rfl rfl hl.1 rfl (Nat.le_of_ble_eq_true rfl) (dc tbL_law_4_k 1 rfl) ⟨by have := hc.1; show _ ≤ 601024; omega, by have := hc.2; show _ ≤ 7293034; omega⟩) hJ hI hA.symm hd2 (fun H locs hJ hI => ?_)
  refine lv_istore (lv' := [(7, .int r5), (6, .int r2), (0, .ref b), (1, .ref (ad 0)), (2, .ref (ad' 135)), (3, .ref (ad 152)), (4, .ref (ad 153)), (5, .int x5)]) hx hb (dc tbL_law_4_k 2 rfl) hl (by decide) rfl (fun ls hl => ?_)
  refine lv_goto (tgt := 1738) hx hb (dc tbL_law_4_k 3 rfl) rfl ?_
  obtain ⟨h7, hf⟩ := chk_s hf
  cases hf
  refine W.widen (k := cells + 64) (n := slots + 4096) (by omega) (by omega) ?_
  exact hk _ _ _ _ _ C (by rw [of_decide_eq_true h7]; exact hS) hI hJ (lv_sub hl [2, 3, 4, 5, 6, 7] rfl)
def mlc_8 (a1 a2 a3 a4 a5 : Int32) (M N : Mem) : Option (Mem × Mem) := cap (mX6_deduction 0 M) (fun r2 => cal (mX7_deduction 135 N) (fun N6 r5 => some (M, N6)))
set_option maxHeartbeats 4000000 in
set_option maxRecDepth 100000 in
theorem lc_8 (hc : cells + 64 ≤ 601024 ∧ slots + 4096 ≤ 7293034) {x5 a0 a1 a2 a3 a4 a5 : Int32} (hs : Sc xs L x5 a0 a1 a2 a3 a4 a5) {M N M' N' : Mem} (hf : mlc_8 a1 a2 a3 a4 a5 M N = some (M', N')) (hk : AtW p l e s m args below meth c L xs G kd' ad' b x5 M' N' Q (cells + 64) (slots + 4096) 1738) : AtW p l e s m args below meth c L xs G kd' ad' b x5 M N Q cells slots 493 := by
  intro kd ad H locs ls C hS hI hJ hl
  obtain ⟨hx, hb, hml, hown, hts, hK, hap, hap2, hsx, hsx2, hnc, hst, hA, hd1, hd2, hX, hbl, hbA, hk0, hLo, hk1, hk3, hk2⟩ := id C
  unfold mlc_8 at hf
  refine lv_aload_n hx hb (dc tbL_law_4_k 4 rfl) rfl (lv_at hl 1 rfl) ?_
  obtain ⟨r2, q1, hf⟩ := cap_s hf
  refine l_calld (g_runV hx hb hml hown hts hK hap hsx hI (tX6_deduction l hk0 q1 H.size) cv_X6_deduction q_t2_138 rfl rfl ⟨Nat.le_of_ble_eq_true rfl, Nat.le_of_ble_eq_true rfl⟩ hk0.1 (by simp) rfl rfl rfl hl.1 rfl (Nat.le_of_ble_eq_true rfl) (dc tbL_law_4_k 5 rfl) ⟨by have := hc.1; show _ ≤ 601024; omega, by have := hc.2; show _ ≤ 7293034; omega⟩) hI hJ hA hd1 (fun H locs hI hJ => ?_)
  refine lv_dstore (lv' := [(6, .double r2), (0, .ref b), (1, .ref (ad 0)), (2, .ref (ad' 135)), (3, .ref (ad 152)), (4, .ref (ad 153)), (5, .int x5)]) hx hb (dc tbL_law_4_k 6 rfl) hl (by decide) rfl (fun ls hl => ?_)
  refine lv_aload_n hx hb (dc tbL_law_4_k 7 rfl) rfl (lv_at hl 3 rfl) ?_
  obtain ⟨N6, r5, q4, hf⟩ := cal_s hf
  refine l_calld (g_runV hx hb hml hown hts hK hap2 hsx2 hJ (tX7_deduction l hk2 q4 H.size) cv_X7_deduction q_t8_64 rfl rfl ⟨Nat.le_of_ble_eq_true rfl, Nat.le_of_ble_eq_true rfl⟩ hk2.1 (by simp) rfl rfl rfl hl.1 rfl (Nat.le_of_ble_eq_true rfl) (dc tbL_law_4_k 8 rfl) ⟨by have := hc.1; show _ ≤ 601024; omega, by have := hc.2; show _ ≤ 7293034; omega⟩) hJ hI hA.symm hd2 (fun H locs hJ hI => ?_)
  refine lv_dstore (lv' := [(8, .double r5), (6, .double r2), (0, .ref b), (1, .ref (ad 0)), (2, .ref (ad' 135)), (3, .ref (ad 152)), (4, .ref (ad 153)), (5, .int x5)]) hx hb (dc tbL_law_4_k 9 rfl) hl (by decide) rfl (fun ls hl => ?_)
  refine lv_goto (tgt := 1738) hx hb (dc tbL_law_4_k 10 rfl) rfl ?_
  cases hf
  refine W.widen (k := cells + 64) (n := slots + 4096) (by omega) (by omega) ?_
  exact hk _ _ _ _ _ C hS hI hJ (lv_sub hl [2, 3, 4, 5, 6, 7] rfl)
def mlc_9 (a1 a2 a3 a4 a5 : Int32) (M N : Mem) : Option (Mem × Mem) := cap (mX6_flatLength 0 M) (fun r2 => cal (mX7_flatLength 135 N) (fun N6 r5 => some (M, N6)))
set_option maxHeartbeats 4000000 in
set_option maxRecDepth 100000 in
theorem lc_9 (hc : cells + 64 ≤ 601024 ∧ slots + 4096 ≤ 7293034) {x5 a0 a1 a2 a3 a4 a5 : Int32} (hs : Sc xs L x5 a0 a1 a2 a3 a4 a5) {M N M' N' : Mem} (hf : mlc_9 a1 a2 a3 a4 a5 M N = some (M', N')) (hk : AtW p l e s m args below meth c L xs G kd' ad' b x5 M' N' Q (cells + 64) (slots + 4096) 1738) : AtW p l e s m args below meth c L xs G kd' ad' b x5 M N Q cells slots 508 := by
  intro kd ad H locs ls C hS hI hJ hl
  obtain ⟨hx, hb, hml, hown, hts, hK, hap, hap2, hsx, hsx2, hnc, hst, hA, hd1, hd2, hX, hbl, hbA, hk0, hLo, hk1, hk3, hk2⟩ := id C
  unfold mlc_9 at hf
  refine lv_aload_n hx hb (dc tbL_law_4_k 11 rfl) rfl (lv_at hl 1 rfl) ?_
  obtain ⟨r2, q1, hf⟩ := cap_s hf
  refine l_calld (g_runV hx hb hml hown hts hK hap hsx hI (tX6_flatLength l hk0 q1 H.size) cv_X6_flatLength q_t2_149 rfl rfl ⟨Nat.le_of_ble_eq_true rfl, Nat.le_of_ble_eq_true rfl⟩ hk0.1 (by simp) rfl rfl rfl hl.1 rfl (Nat.le_of_ble_eq_true rfl) (dc tbL_law_4_k 12 rfl) ⟨by have := hc.1; show _ ≤ 601024; omega, by have := hc.2; show _ ≤ 7293034; omega⟩) hI hJ hA hd1 (fun H locs hI hJ => ?_)
  refine lv_dstore (lv' := [(6, .double r2), (0, .ref b), (1, .ref (ad 0)), (2, .ref (ad' 135)), (3, .ref (ad 152)), (4, .ref (ad 153)), (5, .int x5)]) hx hb (dc tbL_law_4_k 13 rfl) hl (by decide) rfl (fun ls hl => ?_)
  refine lv_aload_n hx hb (dc tbL_law_4_k 14 rfl) rfl (lv_at hl 3 rfl) ?_
  obtain ⟨N6, r5, q4, hf⟩ := cal_s hf
  refine l_calld (g_runV hx hb hml hown hts hK hap2 hsx2 hJ (tX7_flatLength l hk2 q4 H.size) cv_X7_flatLength q_t8_75 rfl rfl ⟨Nat.le_of_ble_eq_true rfl, Nat.le_of_ble_eq_true rfl⟩ hk2.1 (by simp) rfl rfl rfl hl.1 rfl (Nat.le_of_ble_eq_true rfl) (dc tbL_law_4_k 15 rfl) ⟨by have := hc.1; show _ ≤ 601024; omega, by have := hc.2; show _ ≤ 7293034; omega⟩) hJ hI hA.symm hd2 (fun H locs hJ hI => ?_)
  refine lv_dstore (lv' := [(8, .double r5), (6, .double r2), (0, .ref b), (1, .ref (ad 0)), (2, .ref (ad' 135)), (3, .ref (ad 152)), (4, .ref (ad 153)), (5, .int x5)]) hx hb (dc tbL_law_4_k 16 rfl) hl (by decide) rfl (fun ls hl => ?_)
  refine lv_goto (tgt := 1738) hx hb (dc tbL_law_4_k 17 rfl) rfl ?_
  cases hf
  refine W.widen (k := cells + 64) (n := slots + 4096) (by omega) (by omega) ?_
  exact hk _ _ _ _ _ C hS hI hJ (lv_sub hl [2, 3, 4, 5, 6, 7] rfl)
def mlc_10 (a1 a2 a3 a4 a5 : Int32) (M N : Mem) : Option (Mem × Mem) := calh (mL_linePlace 0 153 a1 M) (fun M3 r2 => cal (mX7_linePlace 135 a1 N) (fun N6 r5 => chk (decide (rd M3 133 0 = rd M 133 0)) (some (M3, N6))))
set_option maxHeartbeats 4000000 in
set_option maxRecDepth 100000 in
theorem lc_10 (hc : cells + 64 ≤ 601024 ∧ slots + 4096 ≤ 7293034) {x5 a0 a1 a2 a3 a4 a5 : Int32} (hs : Sc xs L x5 a0 a1 a2 a3 a4 a5) {M N M' N' : Mem} (hf : mlc_10 a1 a2 a3 a4 a5 M N = some (M', N')) (hk : AtW p l e s m args below meth c L xs G kd' ad' b x5 M' N' Q (cells + 64) (slots + 4096) 1738) : AtW p l e s m args below meth c L xs G kd' ad' b x5 M N Q cells slots 523 := by
  intro kd ad H locs ls C hS hI hJ hl
  obtain ⟨hx, hb, hml, hown, hts, hK, hap, hap2, hsx, hsx2, hnc, hst, hA, hd1, hd2, hX, hbl, hbA, hk0, hLo, hk1, hk3, hk2⟩ := id C
  unfold mlc_10 at hf
  refine lv_aload_n hx hb (dc tbL_law_4_k 18 rfl) rfl (lv_at hl 1 rfl) ?_
  refine lv_aload_n hx hb (dc tbL_law_4_k 19 rfl) rfl (lv_at hl 0 rfl) ?_
  refine lv_iload hx hb (dc tbL_law_4_k 20 rfl) (lv_at hl 5 rfl) ?_
  refine lv_iconst (v := 1) hx hb (dc tbL_law_4_k 21 rfl) ic_1 ?_
  refine lv_iadd hx hb (dc tbL_law_4_k 22 rfl) ?_
  refine l_sld hx hb hX hbl hbA hI hs.2.1.1 hs.2.1.2 (dc tbL_law_4_k 23 rfl) ?_
  refine lv_aload hx hb (dc tbL_law_4_k 24 rfl) (lv_at hl 4 rfl) ?_
  obtain ⟨M3, r2, q1, hf⟩ := calh_s hf
  refine l_callH (g_runH hx hb hml hown hts hK hap hsx hnc hI (tL_linePlace l hst hk0 hk3 q1 H.size) ch_L_linePlace q_t6_44 rfl rfl ⟨Nat.le_of_ble_eq_true rfl, Nat.le_of_ble_eq_true rfl⟩ rfl hl.1 rfl (Nat.le_of_ble_eq_true rfl) (dc tbL_law_4_k 25 rfl) ⟨by have := hc.1; show _ ≤ 601024; omega, by have := hc.2; show _ ≤ 7293034; omega⟩) hI hJ hA hd1 (fun H locs hI hJ => ?_)
  refine lv_istore (lv' := [(6, .int r2), (0, .ref b), (1, .ref (ad 0)), (2, .ref (ad' 135)), (3, .ref (ad 152)), (4, .ref (ad 153)), (5, .int x5)]) hx hb (dc tbL_law_4_k 26 rfl) hl (by decide) rfl (fun ls hl => ?_)
  refine lv_aload_n hx hb (dc tbL_law_4_k 27 rfl) rfl (lv_at hl 3 rfl) ?_
  refine lv_aload_n hx hb (dc tbL_law_4_k 28 rfl) rfl (lv_at hl 1 rfl) ?_
  refine lv_iload hx hb (dc tbL_law_4_k 29 rfl) (lv_at hl 6 rfl) ?_
  refine lv_iconst (v := 1) hx hb (dc tbL_law_4_k 30 rfl) ic_1 ?_
  refine lv_iadd hx hb (dc tbL_law_4_k 31 rfl) ?_
  refine l_sld hx hb hX hbl hbA hI hs.2.1.1 hs.2.1.2 (dc tbL_law_4_k 32 rfl) ?_
  obtain ⟨N6, r5, q4, hf⟩ := cal_s hf
  refine l_calld (g_runV hx hb hml hown hts hK hap2 hsx2 hJ (tX7_linePlace l hk2 q4 H.size) cv_X7_linePlace q_t8_83 rfl rfl ⟨Nat.le_of_ble_eq_true rfl, Nat.le_of_ble_eq_true rfl⟩ hk2.1 (by simp) rfl rfl rfl hl.1 rfl (Nat.le_of_ble_eq_true rfl) (dc tbL_law_4_k 33 rfl) ⟨by have := hc.1; show _ ≤ 601024; omega, by have := hc.2; show _ ≤ 7293034; omega⟩) hJ hI hA.symm hd2 (fun H locs hJ hI => ?_)
  refine lv_dstore (lv' := [(7, .double r5), (6, .int r2), (0, .ref b), (1, .ref (ad 0)), (2, .ref (ad' 135)), (3, .ref (ad 152)), (4, .ref (ad 153)), (5, .int x5)]) hx hb (dc tbL_law_4_k 34 rfl) hl (by decide) rfl (fun ls hl => ?_)
  refine lv_goto (tgt := 1738) hx hb (dc tbL_law_4_k 35 rfl) rfl ?_
  obtain ⟨h7, hf⟩ := chk_s hf
  cases hf
  refine W.widen (k := cells + 64) (n := slots + 4096) (by omega) (by omega) ?_
  exact hk _ _ _ _ _ C (by rw [of_decide_eq_true h7]; exact hS) hI hJ (lv_sub hl [2, 3, 4, 5, 6, 7] rfl)
def mlc_11 (a1 a2 a3 a4 a5 : Int32) (M N : Mem) : Option (Mem × Mem) := cap (mX6_ratio 0 M) (fun r2 => cal (mX7_ratio 135 N) (fun N6 r5 => some (M, N6)))
set_option maxHeartbeats 4000000 in
set_option maxRecDepth 100000 in
theorem lc_11 (hc : cells + 64 ≤ 601024 ∧ slots + 4096 ≤ 7293034) {x5 a0 a1 a2 a3 a4 a5 : Int32} (hs : Sc xs L x5 a0 a1 a2 a3 a4 a5) {M N M' N' : Mem} (hf : mlc_11 a1 a2 a3 a4 a5 M N = some (M', N')) (hk : AtW p l e s m args below meth c L xs G kd' ad' b x5 M' N' Q (cells + 64) (slots + 4096) 1738) : AtW p l e s m args below meth c L xs G kd' ad' b x5 M N Q cells slots 552 := by
  intro kd ad H locs ls C hS hI hJ hl
  obtain ⟨hx, hb, hml, hown, hts, hK, hap, hap2, hsx, hsx2, hnc, hst, hA, hd1, hd2, hX, hbl, hbA, hk0, hLo, hk1, hk3, hk2⟩ := id C
  unfold mlc_11 at hf
  refine lv_aload_n hx hb (dc tbL_law_4_k 36 rfl) rfl (lv_at hl 1 rfl) ?_
  obtain ⟨r2, q1, hf⟩ := cap_s hf
  refine l_calld (g_runV hx hb hml hown hts hK hap hsx hI (tX6_ratio l hk0 q1 H.size) cv_X6_ratio q_t2_157 rfl rfl ⟨Nat.le_of_ble_eq_true rfl, Nat.le_of_ble_eq_true rfl⟩ hk0.1 (by simp) rfl rfl rfl hl.1 rfl (Nat.le_of_ble_eq_true rfl) (dc tbL_law_4_k 37 rfl) ⟨by have := hc.1; show _ ≤ 601024; omega, by have := hc.2; show _ ≤ 7293034; omega⟩) hI hJ hA hd1 (fun H locs hI hJ => ?_)
  refine lv_dstore (lv' := [(6, .double r2), (0, .ref b), (1, .ref (ad 0)), (2, .ref (ad' 135)), (3, .ref (ad 152)), (4, .ref (ad 153)), (5, .int x5)]) hx hb (dc tbL_law_4_k 38 rfl) hl (by decide) rfl (fun ls hl => ?_)
  refine lv_aload_n hx hb (dc tbL_law_4_k 39 rfl) rfl (lv_at hl 3 rfl) ?_
  obtain ⟨N6, r5, q4, hf⟩ := cal_s hf
  refine l_calld (g_runV hx hb hml hown hts hK hap2 hsx2 hJ (tX7_ratio l hk2 q4 H.size) cv_X7_ratio q_t8_88 rfl rfl ⟨Nat.le_of_ble_eq_true rfl, Nat.le_of_ble_eq_true rfl⟩ hk2.1 (by simp) rfl rfl rfl hl.1 rfl (Nat.le_of_ble_eq_true rfl) (dc tbL_law_5_k 0 rfl) ⟨by have := hc.1; show _ ≤ 601024; omega, by have := hc.2; show _ ≤ 7293034; omega⟩) hJ hI hA.symm hd2 (fun H locs hJ hI => ?_)
  refine lv_dstore (lv' := [(8, .double r5), (6, .double r2), (0, .ref b), (1, .ref (ad 0)), (2, .ref (ad' 135)), (3, .ref (ad 152)), (4, .ref (ad 153)), (5, .int x5)]) hx hb (dc tbL_law_5_k 1 rfl) hl (by decide) rfl (fun ls hl => ?_)
  refine lv_goto (tgt := 1738) hx hb (dc tbL_law_5_k 2 rfl) rfl ?_
  cases hf
  refine W.widen (k := cells + 64) (n := slots + 4096) (by omega) (by omega) ?_
  exact hk _ _ _ _ _ C hS hI hJ (lv_sub hl [2, 3, 4, 5, 6, 7] rfl)
def mlc_12 (a1 a2 a3 a4 a5 : Int32) (M N : Mem) : Option (Mem × Mem) := cap (mX6_springBack 0 M) (fun r2 => cal (mX7_springBack 135 N) (fun N6 r5 => some (M, N6)))
set_option maxHeartbeats 4000000 in
set_option maxRecDepth 100000 in
theorem lc_12 (hc : cells + 64 ≤ 601024 ∧ slots + 4096 ≤ 7293034) {x5 a0 a1 a2 a3 a4 a5 : Int32} (hs : Sc xs L x5 a0 a1 a2 a3 a4 a5) {M N M' N' : Mem} (hf : mlc_12 a1 a2 a3 a4 a5 M N = some (M', N')) (hk : AtW p l e s m args below meth c L xs G kd' ad' b x5 M' N' Q (cells + 64) (slots + 4096) 1738) : AtW p l e s m args below meth c L xs G kd' ad' b x5 M N Q cells slots 567 := by
  intro kd ad H locs ls C hS hI hJ hl
  obtain ⟨hx, hb, hml, hown, hts, hK, hap, hap2, hsx, hsx2, hnc, hst, hA, hd1, hd2, hX, hbl, hbA, hk0, hLo, hk1, hk3, hk2⟩ := id C
  unfold mlc_12 at hf
  refine lv_aload_n hx hb (dc tbL_law_5_k 3 rfl) rfl (lv_at hl 1 rfl) ?_
  obtain ⟨r2, q1, hf⟩ := cap_s hf
  refine l_calld (g_runV hx hb hml hown hts hK hap hsx hI (tX6_springBack l hk0 q1 H.size) cv_X6_springBack q_t2_166 rfl rfl ⟨Nat.le_of_ble_eq_true rfl, Nat.le_of_ble_eq_true rfl⟩ hk0.1 (by simp) rfl rfl rfl hl.1 rfl (Nat.le_of_ble_eq_true rfl) (dc tbL_law_5_k 4 rfl) ⟨by have := hc.1; show _ ≤ 601024; omega, by have := hc.2; show _ ≤ 7293034; omega⟩) hI hJ hA hd1 (fun H locs hI hJ => ?_)
  refine lv_dstore (lv' := [(6, .double r2), (0, .ref b), (1, .ref (ad 0)), (2, .ref (ad' 135)), (3, .ref (ad 152)), (4, .ref (ad 153)), (5, .int x5)]) hx hb (dc tbL_law_5_k 5 rfl) hl (by decide) rfl (fun ls hl => ?_)
  refine lv_aload_n hx hb (dc tbL_law_5_k 6 rfl) rfl (lv_at hl 3 rfl) ?_
  obtain ⟨N6, r5, q4, hf⟩ := cal_s hf
  refine l_calld (g_runV hx hb hml hown hts hK hap2 hsx2 hJ (tX7_springBack l hk2 q4 H.size) cv_X7_springBack q_t8_97 rfl rfl ⟨Nat.le_of_ble_eq_true rfl, Nat.le_of_ble_eq_true rfl⟩ hk2.1 (by simp) rfl rfl rfl hl.1 rfl (Nat.le_of_ble_eq_true rfl) (dc tbL_law_5_k 7 rfl) ⟨by have := hc.1; show _ ≤ 601024; omega, by have := hc.2; show _ ≤ 7293034; omega⟩) hJ hI hA.symm hd2 (fun H locs hJ hI => ?_)
  refine lv_dstore (lv' := [(8, .double r5), (6, .double r2), (0, .ref b), (1, .ref (ad 0)), (2, .ref (ad' 135)), (3, .ref (ad 152)), (4, .ref (ad 153)), (5, .int x5)]) hx hb (dc tbL_law_5_k 8 rfl) hl (by decide) rfl (fun ls hl => ?_)
  refine lv_goto (tgt := 1738) hx hb (dc tbL_law_5_k 9 rfl) rfl ?_
  cases hf
  refine W.widen (k := cells + 64) (n := slots + 4096) (by omega) (by omega) ?_
  exact hk _ _ _ _ _ C hS hI hJ (lv_sub hl [2, 3, 4, 5, 6, 7] rfl)
def mlc_13 (a1 a2 a3 a4 a5 : Int32) (M N : Mem) : Option (Mem × Mem) := chk (n64b (FP.dmul (FP.i2d a1) (4593671619917905920 : UInt64))) (calh (mL_springBackFor 0 153 (FP.dmul (FP.i2d a1) (4593671619917905920 : UInt64)) M) (fun M4 r3 => chk (n64b (FP.dmul (FP.i2d a1) (4593671619917905920 : UInt64))) (cal (mX7_springBackFor 135 (FP.dmul (FP.i2d a1) (4593671619917905920 : UInt64)) N) (fun N8 r7 => chk (decide (rd M4 133 0 = rd M 133 0)) (some (M4, N8))))))
set_option maxHeartbeats 4000000 in
set_option maxRecDepth 100000 in
theorem lc_13 (hc : cells + 64 ≤ 601024 ∧ slots + 4096 ≤ 7293034) {x5 a0 a1 a2 a3 a4 a5 : Int32} (hs : Sc xs L x5 a0 a1 a2 a3 a4 a5) {M N M' N' : Mem} (hf : mlc_13 a1 a2 a3 a4 a5 M N = some (M', N')) (hk : AtW p l e s m args below meth c L xs G kd' ad' b x5 M' N' Q (cells + 64) (slots + 4096) 1738) : AtW p l e s m args below meth c L xs G kd' ad' b x5 M N Q cells slots 582 := by
  intro kd ad H locs ls C hS hI hJ hl
  obtain ⟨hx, hb, hml, hown, hts, hK, hap, hap2, hsx, hsx2, hnc, hst, hA, hd1, hd2, hX, hbl, hbA, hk0, hLo, hk1, hk3, hk2⟩ := id C
  unfold mlc_13 at hf
  refine lv_aload_n hx hb (dc tbL_law_5_k 10 rfl) rfl (lv_at hl 1 rfl) ?_
  refine lv_aload_n hx hb (dc tbL_law_5_k 11 rfl) rfl (lv_at hl 0 rfl) ?_
  refine lv_iload hx hb (dc tbL_law_5_k 12 rfl) (lv_at hl 5 rfl) ?_
  refine lv_iconst (v := 1) hx hb (dc tbL_law_5_k 13 rfl) ic_1 ?_
  refine lv_iadd hx hb (dc tbL_law_5_k 14 rfl) ?_
  refine l_sld hx hb hX hbl hbA hI hs.2.1.1 hs.2.1.2 (dc tbL_law_5_k 15 rfl) ?_
  refine lv_i2d hx hb (dc tbL_law_5_k 16 rfl) ?_
  refine lv_ldc2d hx hb hown (hts _ q_t10_16) (dc tbL_law_5_k 17 rfl) ?_
  obtain ⟨h1, hf⟩ := chk_s hf
  refine lv_dmul hx hb (dc tbL_law_5_k 18 rfl) (n64_b h1) ?_
  refine lv_aload hx hb (dc tbL_law_5_k 19 rfl) (lv_at hl 4 rfl) ?_
  obtain ⟨M4, r3, q2, hf⟩ := calh_s hf
  refine l_callH (g_runH hx hb hml hown hts hK hap hsx hnc hI (tL_springBackFor l hst hk0 hk3 q2 H.size) ch_L_springBackFor q_t6_52 rfl rfl ⟨Nat.le_of_ble_eq_true rfl, Nat.le_of_ble_eq_true rfl⟩ rfl hl.1 rfl (Nat.le_of_ble_eq_true rfl) (dc tbL_law_5_k 20 rfl) ⟨by have := hc.1; show _ ≤ 601024; omega, by have := hc.2; show _ ≤ 7293034; omega⟩) hI hJ hA hd1 (fun H locs hI hJ => ?_)
  refine lv_istore (lv' := [(6, .int r3), (0, .ref b), (1, .ref (ad 0)), (2, .ref (ad' 135)), (3, .ref (ad 152)), (4, .ref (ad 153)), (5, .int x5)]) hx hb (dc tbL_law_5_k 21 rfl) hl (by decide) rfl (fun ls hl => ?_)
  refine lv_aload_n hx hb (dc tbL_law_5_k 22 rfl) rfl (lv_at hl 3 rfl) ?_
  refine lv_aload_n hx hb (dc tbL_law_5_k 23 rfl) rfl (lv_at hl 1 rfl) ?_
  refine lv_iload hx hb (dc tbL_law_5_k 24 rfl) (lv_at hl 6 rfl) ?_
  refine lv_iconst (v := 1) hx hb (dc tbL_law_5_k 25 rfl) ic_1 ?_
  refine lv_iadd hx hb (dc tbL_law_5_k 26 rfl) ?_
  refine l_sld hx hb hX hbl hbA hI hs.2.1.1 hs.2.1.2 (dc tbL_law_5_k 27 rfl) ?_
  refine lv_i2d hx hb (dc tbL_law_5_k 28 rfl) ?_
  refine lv_ldc2d hx hb hown (hts _ q_t10_16) (dc tbL_law_5_k 29 rfl) ?_
  obtain ⟨h5, hf⟩ := chk_s hf
  refine lv_dmul hx hb (dc tbL_law_5_k 30 rfl) (n64_b h5) ?_
  obtain ⟨N8, r7, q6, hf⟩ := cal_s hf
  refine l_calld (g_runV hx hb hml hown hts hK hap2 hsx2 hJ (tX7_springBackFor l hk2 q6 H.size) cv_X7_springBackFor q_t8_113 rfl rfl ⟨Nat.le_of_ble_eq_true rfl, Nat.le_of_ble_eq_true rfl⟩ hk2.1 (by simp) rfl rfl rfl hl.1 rfl (Nat.le_of_ble_eq_true rfl) (dc tbL_law_5_k 31 rfl) ⟨by have := hc.1; show _ ≤ 601024; omega, by have := hc.2; show _ ≤ 7293034; omega⟩) hJ hI hA.symm hd2 (fun H locs hJ hI => ?_)
  refine lv_dstore (lv' := [(7, .double r7), (6, .int r3), (0, .ref b), (1, .ref (ad 0)), (2, .ref (ad' 135)), (3, .ref (ad 152)), (4, .ref (ad 153)), (5, .int x5)]) hx hb (dc tbL_law_5_k 32 rfl) hl (by decide) rfl (fun ls hl => ?_)
  refine lv_goto (tgt := 1738) hx hb (dc tbL_law_5_k 33 rfl) rfl ?_
  obtain ⟨h9, hf⟩ := chk_s hf
  cases hf
  refine W.widen (k := cells + 64) (n := slots + 4096) (by omega) (by omega) ?_
  exact hk _ _ _ _ _ C (by rw [of_decide_eq_true h9]; exact hS) hI hJ (lv_sub hl [2, 3, 4, 5, 6, 7] rfl)
def mlc_14 (a1 a2 a3 a4 a5 : Int32) (M N : Mem) : Option (Mem × Mem) := cap (mX6_swingAngle 0 M) (fun r2 => cal (mX7_swingAngle 135 N) (fun N6 r5 => some (M, N6)))
set_option maxHeartbeats 4000000 in
set_option maxRecDepth 100000 in
theorem lc_14 (hc : cells + 64 ≤ 601024 ∧ slots + 4096 ≤ 7293034) {x5 a0 a1 a2 a3 a4 a5 : Int32} (hs : Sc xs L x5 a0 a1 a2 a3 a4 a5) {M N M' N' : Mem} (hf : mlc_14 a1 a2 a3 a4 a5 M N = some (M', N')) (hk : AtW p l e s m args below meth c L xs G kd' ad' b x5 M' N' Q (cells + 64) (slots + 4096) 1738) : AtW p l e s m args below meth c L xs G kd' ad' b x5 M N Q cells slots 621 := by
  intro kd ad H locs ls C hS hI hJ hl
  obtain ⟨hx, hb, hml, hown, hts, hK, hap, hap2, hsx, hsx2, hnc, hst, hA, hd1, hd2, hX, hbl, hbA, hk0, hLo, hk1, hk3, hk2⟩ := id C
  unfold mlc_14 at hf
  refine lv_aload_n hx hb (dc tbL_law_5_k 34 rfl) rfl (lv_at hl 1 rfl) ?_
  obtain ⟨r2, q1, hf⟩ := cap_s hf
  refine l_calli (g_runV hx hb hml hown hts hK hap hsx hI (tX6_swingAngle l hk0 q1 H.size) cv_X6_swingAngle q_t2_178 rfl rfl ⟨Nat.le_of_ble_eq_true rfl, Nat.le_of_ble_eq_true rfl⟩ hk0.1 (by simp) rfl rfl rfl hl.1 rfl (Nat.le_of_ble_eq_true rfl) (dc tbL_law_5_k 35 rfl) ⟨by have := hc.1; show _ ≤ 601024; omega, by have := hc.2; show _ ≤ 7293034; omega⟩) hI hJ hA hd1 (fun H locs hI hJ => ?_)
  refine lv_pop hx hb (dc tbL_law_5_k 36 rfl) rfl ?_
  refine lv_aload_n hx hb (dc tbL_law_5_k 37 rfl) rfl (lv_at hl 2 rfl) ?_
  obtain ⟨N6, r5, q4, hf⟩ := cal_s hf
  refine l_calli (g_runV hx hb hml hown hts hK hap2 hsx2 hJ (tX7_swingAngle l hk2 q4 H.size) cv_X7_swingAngle q_t8_118 rfl rfl ⟨Nat.le_of_ble_eq_true rfl, Nat.le_of_ble_eq_true rfl⟩ hk2.1 (by simp) rfl rfl rfl hl.1 rfl (Nat.le_of_ble_eq_true rfl) (dc tbL_law_5_k 38 rfl) ⟨by have := hc.1; show _ ≤ 601024; omega, by have := hc.2; show _ ≤ 7293034; omega⟩) hJ hI hA.symm hd2 (fun H locs hJ hI => ?_)
  refine lv_pop hx hb (dc tbL_law_5_k 39 rfl) rfl ?_
  refine lv_goto (tgt := 1738) hx hb (dc tbL_law_6_k 0 rfl) rfl ?_
  cases hf
  refine W.widen (k := cells + 64) (n := slots + 4096) (by omega) (by omega) ?_
  exact hk _ _ _ _ _ C hS hI hJ (lv_sub hl [0, 1, 2, 3, 4, 5] rfl)
def mlc_15 (a1 a2 a3 a4 a5 : Int32) (M N : Mem) : Option (Mem × Mem) := calh (mL_tool 0 152 a1 a2 M) (fun M3 r2 => cal (mX7_tool 135 a1 a2 N) (fun N6 r5 => chk (decide (rd M3 133 0 = rd M 133 0)) (some (M3, N6))))
set_option maxHeartbeats 4000000 in
set_option maxRecDepth 100000 in
theorem lc_15 (hc : cells + 64 ≤ 601024 ∧ slots + 4096 ≤ 7293034) {x5 a0 a1 a2 a3 a4 a5 : Int32} (hs : Sc xs L x5 a0 a1 a2 a3 a4 a5) {M N M' N' : Mem} (hf : mlc_15 a1 a2 a3 a4 a5 M N = some (M', N')) (hk : AtW p l e s m args below meth c L xs G kd' ad' b x5 M' N' Q (cells + 64) (slots + 4096) 1738) : AtW p l e s m args below meth c L xs G kd' ad' b x5 M N Q cells slots 634 := by
  intro kd ad H locs ls C hS hI hJ hl
  obtain ⟨hx, hb, hml, hown, hts, hK, hap, hap2, hsx, hsx2, hnc, hst, hA, hd1, hd2, hX, hbl, hbA, hk0, hLo, hk1, hk3, hk2⟩ := id C
  unfold mlc_15 at hf
  refine lv_aload_n hx hb (dc tbL_law_6_k 1 rfl) rfl (lv_at hl 1 rfl) ?_
  refine lv_aload_n hx hb (dc tbL_law_6_k 2 rfl) rfl (lv_at hl 0 rfl) ?_
  refine lv_iload hx hb (dc tbL_law_6_k 3 rfl) (lv_at hl 5 rfl) ?_
  refine lv_iconst (v := 1) hx hb (dc tbL_law_6_k 4 rfl) ic_1 ?_
  refine lv_iadd hx hb (dc tbL_law_6_k 5 rfl) ?_
  refine l_sld hx hb hX hbl hbA hI hs.2.1.1 hs.2.1.2 (dc tbL_law_6_k 6 rfl) ?_
  refine lv_aload_n hx hb (dc tbL_law_6_k 7 rfl) rfl (lv_at hl 0 rfl) ?_
  refine lv_iload hx hb (dc tbL_law_6_k 8 rfl) (lv_at hl 5 rfl) ?_
  refine lv_iconst (v := 2) hx hb (dc tbL_law_6_k 9 rfl) ic_2 ?_
  refine lv_iadd hx hb (dc tbL_law_6_k 10 rfl) ?_
  refine l_sld hx hb hX hbl hbA hI hs.2.2.1.1 hs.2.2.1.2 (dc tbL_law_6_k 11 rfl) ?_
  refine lv_aload_n hx hb (dc tbL_law_6_k 12 rfl) rfl (lv_at hl 3 rfl) ?_
  obtain ⟨M3, r2, q1, hf⟩ := calh_s hf
  refine l_callH (g_runH hx hb hml hown hts hK hap hsx hnc hI (tL_tool l hst hk0 hk1 q1 H.size) ch_L_tool q_t6_61 rfl rfl ⟨Nat.le_of_ble_eq_true rfl, Nat.le_of_ble_eq_true rfl⟩ rfl hl.1 rfl (Nat.le_of_ble_eq_true rfl) (dc tbL_law_6_k 13 rfl) ⟨by have := hc.1; show _ ≤ 601024; omega, by have := hc.2; show _ ≤ 7293034; omega⟩) hI hJ hA hd1 (fun H locs hI hJ => ?_)
  refine lv_istore (lv' := [(6, .int r2), (0, .ref b), (1, .ref (ad 0)), (2, .ref (ad' 135)), (3, .ref (ad 152)), (4, .ref (ad 153)), (5, .int x5)]) hx hb (dc tbL_law_6_k 14 rfl) hl (by decide) rfl (fun ls hl => ?_)
  refine lv_aload_n hx hb (dc tbL_law_6_k 15 rfl) rfl (lv_at hl 3 rfl) ?_
  refine lv_aload_n hx hb (dc tbL_law_6_k 16 rfl) rfl (lv_at hl 1 rfl) ?_
  refine lv_iload hx hb (dc tbL_law_6_k 17 rfl) (lv_at hl 6 rfl) ?_
  refine lv_iconst (v := 1) hx hb (dc tbL_law_6_k 18 rfl) ic_1 ?_
  refine lv_iadd hx hb (dc tbL_law_6_k 19 rfl) ?_
  refine l_sld hx hb hX hbl hbA hI hs.2.1.1 hs.2.1.2 (dc tbL_law_6_k 20 rfl) ?_
  refine lv_aload_n hx hb (dc tbL_law_6_k 21 rfl) rfl (lv_at hl 1 rfl) ?_
  refine lv_iload hx hb (dc tbL_law_6_k 22 rfl) (lv_at hl 6 rfl) ?_
  refine lv_iconst (v := 2) hx hb (dc tbL_law_6_k 23 rfl) ic_2 ?_
  refine lv_iadd hx hb (dc tbL_law_6_k 24 rfl) ?_
  refine l_sld hx hb hX hbl hbA hI hs.2.2.1.1 hs.2.2.1.2 (dc tbL_law_6_k 25 rfl) ?_
  obtain ⟨N6, r5, q4, hf⟩ := cal_s hf
  refine l_calli (g_runV hx hb hml hown hts hK hap2 hsx2 hJ (tX7_tool l hk2 q4 H.size) cv_X7_tool q_t8_123 rfl rfl ⟨Nat.le_of_ble_eq_true rfl, Nat.le_of_ble_eq_true rfl⟩ hk2.1 (by simp) rfl rfl rfl hl.1 rfl (Nat.le_of_ble_eq_true rfl) (dc tbL_law_6_k 26 rfl) ⟨by have := hc.1; show _ ≤ 601024; omega, by have := hc.2; show _ ≤ 7293034; omega⟩) hJ hI hA.symm hd2 (fun H locs hJ hI => ?_)
  refine lv_istore (lv' := [(7, .int r5), (6, .int r2), (0, .ref b), (1, .ref (ad 0)), (2, .ref (ad' 135)), (3, .ref (ad 152)), (4, .ref (ad 153)), (5, .int x5)]) hx hb (dc tbL_law_6_k 27 rfl) hl (by decide) rfl (fun ls hl => ?_)
  refine lv_goto (tgt := 1738) hx hb (dc tbL_law_6_k 28 rfl) rfl ?_
  obtain ⟨h7, hf⟩ := chk_s hf
  cases hf
  refine W.widen (k := cells + 64) (n := slots + 4096) (by omega) (by omega) ?_
  exact hk _ _ _ _ _ C (by rw [of_decide_eq_true h7]; exact hS) hI hJ (lv_sub hl [2, 3, 4, 5, 6, 7] rfl)
def mlc_16 (a1 a2 a3 a4 a5 : Int32) (M N : Mem) : Option (Mem × Mem) := cal (mX6_finishedWidth 0 M) (fun M3 r2 => cal (mX7_finishedWidth 135 N) (fun N6 r5 => chk (decide (rd M3 133 0 = rd M 133 0)) (some (M3, N6))))
set_option maxHeartbeats 4000000 in
set_option maxRecDepth 100000 in
theorem lc_16 (hc : cells + 64 ≤ 601024 ∧ slots + 4096 ≤ 7293034) {x5 a0 a1 a2 a3 a4 a5 : Int32} (hs : Sc xs L x5 a0 a1 a2 a3 a4 a5) {M N M' N' : Mem} (hf : mlc_16 a1 a2 a3 a4 a5 M N = some (M', N')) (hk : AtW p l e s m args below meth c L xs G kd' ad' b x5 M' N' Q (cells + 64) (slots + 4096) 1738) : AtW p l e s m args below meth c L xs G kd' ad' b x5 M N Q cells slots 674 := by
  intro kd ad H locs ls C hS hI hJ hl
  obtain ⟨hx, hb, hml, hown, hts, hK, hap, hap2, hsx, hsx2, hnc, hst, hA, hd1, hd2, hX, hbl, hbA, hk0, hLo, hk1, hk3, hk2⟩ := id C
  unfold mlc_16 at hf
  refine lv_aload_n hx hb (dc tbL_law_6_k 29 rfl) rfl (lv_at hl 1 rfl) ?_
  obtain ⟨M3, r2, q1, hf⟩ := cal_s hf
  refine l_calli (g_runV hx hb hml hown hts hK hap hsx hI (tX6_finishedWidth l hk0 q1 H.size) cv_X6_finishedWidth q_t2_182 rfl rfl ⟨Nat.le_of_ble_eq_true rfl, Nat.le_of_ble_eq_true rfl⟩ hk0.1 (by simp) rfl rfl rfl hl.1 rfl (Nat.le_of_ble_eq_true rfl) (dc tbL_law_6_k 30 rfl) ⟨by have := hc.1; show _ ≤ 601024; omega, by have := hc.2; show _ ≤ 7293034; omega⟩) hI hJ hA hd1 (fun H locs hI hJ => ?_)
  refine lv_pop hx hb (dc tbL_law_6_k 31 rfl) rfl ?_
  refine lv_aload_n hx hb (dc tbL_law_6_k 32 rfl) rfl (lv_at hl 2 rfl) ?_
  obtain ⟨N6, r5, q4, hf⟩ := cal_s hf
  refine l_calli (g_runV hx hb hml hown hts hK hap2 hsx2 hJ (tX7_finishedWidth l hk2 q4 H.size) cv_X7_finishedWidth q_t8_143 rfl rfl ⟨Nat.le_of_ble_eq_true rfl, Nat.le_of_ble_eq_true rfl⟩ hk2.1 (by simp) rfl rfl rfl hl.1 rfl (Nat.le_of_ble_eq_true rfl) (dc tbL_law_6_k 33 rfl) ⟨by have := hc.1; show _ ≤ 601024; omega, by have := hc.2; show _ ≤ 7293034; omega⟩) hJ hI hA.symm hd2 (fun H locs hJ hI => ?_)
  refine lv_pop hx hb (dc tbL_law_6_k 34 rfl) rfl ?_
  refine lv_goto (tgt := 1738) hx hb (dc tbL_law_6_k 35 rfl) rfl ?_
  obtain ⟨h7, hf⟩ := chk_s hf
  cases hf
  refine W.widen (k := cells + 64) (n := slots + 4096) (by omega) (by omega) ?_
  exact hk _ _ _ _ _ C (by rw [of_decide_eq_true h7]; exact hS) hI hJ (lv_sub hl [0, 1, 2, 3, 4, 5] rfl)
def mlc_17 (a1 a2 a3 a4 a5 : Int32) (M N : Mem) : Option (Mem × Mem) := cal (mX6_finishedHeight 0 M) (fun M3 r2 => cal (mX7_finishedHeight 135 N) (fun N6 r5 => chk (decide (rd M3 133 0 = rd M 133 0)) (some (M3, N6))))
set_option maxHeartbeats 4000000 in
set_option maxRecDepth 100000 in
theorem lc_17 (hc : cells + 64 ≤ 601024 ∧ slots + 4096 ≤ 7293034) {x5 a0 a1 a2 a3 a4 a5 : Int32} (hs : Sc xs L x5 a0 a1 a2 a3 a4 a5) {M N M' N' : Mem} (hf : mlc_17 a1 a2 a3 a4 a5 M N = some (M', N')) (hk : AtW p l e s m args below meth c L xs G kd' ad' b x5 M' N' Q (cells + 64) (slots + 4096) 1738) : AtW p l e s m args below meth c L xs G kd' ad' b x5 M N Q cells slots 687 := by
  intro kd ad H locs ls C hS hI hJ hl
  obtain ⟨hx, hb, hml, hown, hts, hK, hap, hap2, hsx, hsx2, hnc, hst, hA, hd1, hd2, hX, hbl, hbA, hk0, hLo, hk1, hk3, hk2⟩ := id C
  unfold mlc_17 at hf
  refine lv_aload_n hx hb (dc tbL_law_6_k 36 rfl) rfl (lv_at hl 1 rfl) ?_
  obtain ⟨M3, r2, q1, hf⟩ := cal_s hf
  refine l_calli (g_runV hx hb hml hown hts hK hap hsx hI (tX6_finishedHeight l hk0 q1 H.size) cv_X6_finishedHeight q_t2_208 rfl rfl ⟨Nat.le_of_ble_eq_true rfl, Nat.le_of_ble_eq_true rfl⟩ hk0.1 (by simp) rfl rfl rfl hl.1 rfl (Nat.le_of_ble_eq_true rfl) (dc tbL_law_6_k 37 rfl) ⟨by have := hc.1; show _ ≤ 601024; omega, by have := hc.2; show _ ≤ 7293034; omega⟩) hI hJ hA hd1 (fun H locs hI hJ => ?_)
  refine lv_pop hx hb (dc tbL_law_6_k 38 rfl) rfl ?_
  refine lv_aload_n hx hb (dc tbL_law_6_k 39 rfl) rfl (lv_at hl 2 rfl) ?_
  obtain ⟨N6, r5, q4, hf⟩ := cal_s hf
  refine l_calli (g_runV hx hb hml hown hts hK hap2 hsx2 hJ (tX7_finishedHeight l hk2 q4 H.size) cv_X7_finishedHeight q_t8_163 rfl rfl ⟨Nat.le_of_ble_eq_true rfl, Nat.le_of_ble_eq_true rfl⟩ hk2.1 (by simp) rfl rfl rfl hl.1 rfl (Nat.le_of_ble_eq_true rfl) (dc tbL_law_7_k 0 rfl) ⟨by have := hc.1; show _ ≤ 601024; omega, by have := hc.2; show _ ≤ 7293034; omega⟩) hJ hI hA.symm hd2 (fun H locs hJ hI => ?_)
  refine lv_pop hx hb (dc tbL_law_7_k 1 rfl) rfl ?_
  refine lv_goto (tgt := 1738) hx hb (dc tbL_law_7_k 2 rfl) rfl ?_
  obtain ⟨h7, hf⟩ := chk_s hf
  cases hf
  refine W.widen (k := cells + 64) (n := slots + 4096) (by omega) (by omega) ?_
  exact hk _ _ _ _ _ C (by rw [of_decide_eq_true h7]; exact hS) hI hJ (lv_sub hl [0, 1, 2, 3, 4, 5] rfl)
def mlc_18 (a1 a2 a3 a4 a5 : Int32) (M N : Mem) : Option (Mem × Mem) := cal (mX6_isFinishedCrossed 0 M) (fun M3 r2 => cal (mX7_isFinishedCrossed 135 N) (fun N6 r5 => chk (decide (rd M3 133 0 = rd M 133 0)) (some (M3, N6))))
set_option maxHeartbeats 4000000 in
set_option maxRecDepth 100000 in
theorem lc_18 (hc : cells + 64 ≤ 601024 ∧ slots + 4096 ≤ 7293034) {x5 a0 a1 a2 a3 a4 a5 : Int32} (hs : Sc xs L x5 a0 a1 a2 a3 a4 a5) {M N M' N' : Mem} (hf : mlc_18 a1 a2 a3 a4 a5 M N = some (M', N')) (hk : AtW p l e s m args below meth c L xs G kd' ad' b x5 M' N' Q (cells + 64) (slots + 4096) 1738) : AtW p l e s m args below meth c L xs G kd' ad' b x5 M N Q cells slots 700 := by
  intro kd ad H locs ls C hS hI hJ hl
  obtain ⟨hx, hb, hml, hown, hts, hK, hap, hap2, hsx, hsx2, hnc, hst, hA, hd1, hd2, hX, hbl, hbA, hk0, hLo, hk1, hk3, hk2⟩ := id C
  unfold mlc_18 at hf
  refine lv_aload_n hx hb (dc tbL_law_7_k 3 rfl) rfl (lv_at hl 1 rfl) ?_
  obtain ⟨M3, r2, q1, hf⟩ := cal_s hf
  refine l_calli (g_runV hx hb hml hown hts hK hap hsx hI (tX6_isFinishedCrossed l hk0 q1 H.size) cv_X6_isFinishedCrossed q_t2_212 rfl rfl ⟨Nat.le_of_ble_eq_true rfl, Nat.le_of_ble_eq_true rfl⟩ hk0.1 (by simp) rfl rfl rfl hl.1 rfl (Nat.le_of_ble_eq_true rfl) (dc tbL_law_7_k 4 rfl) ⟨by have := hc.1; show _ ≤ 601024; omega, by have := hc.2; show _ ≤ 7293034; omega⟩) hI hJ hA hd1 (fun H locs hI hJ => ?_)
  refine lv_pop hx hb (dc tbL_law_7_k 5 rfl) rfl ?_
  refine lv_aload_n hx hb (dc tbL_law_7_k 6 rfl) rfl (lv_at hl 2 rfl) ?_
  obtain ⟨N6, r5, q4, hf⟩ := cal_s hf
  refine l_calli (g_runV hx hb hml hown hts hK hap2 hsx2 hJ (tX7_isFinishedCrossed l hk2 q4 H.size) cv_X7_isFinishedCrossed q_t8_167 rfl rfl ⟨Nat.le_of_ble_eq_true rfl, Nat.le_of_ble_eq_true rfl⟩ hk2.1 (by simp) rfl rfl rfl hl.1 rfl (Nat.le_of_ble_eq_true rfl) (dc tbL_law_7_k 7 rfl) ⟨by have := hc.1; show _ ≤ 601024; omega, by have := hc.2; show _ ≤ 7293034; omega⟩) hJ hI hA.symm hd2 (fun H locs hJ hI => ?_)
  refine lv_pop hx hb (dc tbL_law_7_k 8 rfl) rfl ?_
  refine lv_goto (tgt := 1738) hx hb (dc tbL_law_7_k 9 rfl) rfl ?_
  obtain ⟨h7, hf⟩ := chk_s hf
  cases hf
  refine W.widen (k := cells + 64) (n := slots + 4096) (by omega) (by omega) ?_
  exact hk _ _ _ _ _ C (by rw [of_decide_eq_true h7]; exact hS) hI hJ (lv_sub hl [0, 1, 2, 3, 4, 5] rfl)
def mlc_19 (a1 a2 a3 a4 a5 : Int32) (M N : Mem) : Option (Mem × Mem) := calh (mL_finishedCorner 0 152 a1 a2 M) (fun M3 r2 => cal (mX7_finishedCorner 135 a1 a2 N) (fun N6 r5 => chk (decide (rd M3 133 0 = rd M 133 0)) (some (M3, N6))))
set_option maxHeartbeats 4000000 in
set_option maxRecDepth 100000 in
theorem lc_19 (hc : cells + 64 ≤ 601024 ∧ slots + 4096 ≤ 7293034) {x5 a0 a1 a2 a3 a4 a5 : Int32} (hs : Sc xs L x5 a0 a1 a2 a3 a4 a5) {M N M' N' : Mem} (hf : mlc_19 a1 a2 a3 a4 a5 M N = some (M', N')) (hk : AtW p l e s m args below meth c L xs G kd' ad' b x5 M' N' Q (cells + 64) (slots + 4096) 1738) : AtW p l e s m args below meth c L xs G kd' ad' b x5 M N Q cells slots 713 := by
  intro kd ad H locs ls C hS hI hJ hl
  obtain ⟨hx, hb, hml, hown, hts, hK, hap, hap2, hsx, hsx2, hnc, hst, hA, hd1, hd2, hX, hbl, hbA, hk0, hLo, hk1, hk3, hk2⟩ := id C
  unfold mlc_19 at hf
  refine lv_aload_n hx hb (dc tbL_law_7_k 10 rfl) rfl (lv_at hl 1 rfl) ?_
  refine lv_aload_n hx hb (dc tbL_law_7_k 11 rfl) rfl (lv_at hl 0 rfl) ?_
  refine lv_iload hx hb (dc tbL_law_7_k 12 rfl) (lv_at hl 5 rfl) ?_
  refine lv_iconst (v := 1) hx hb (dc tbL_law_7_k 13 rfl) ic_1 ?_
  refine lv_iadd hx hb (dc tbL_law_7_k 14 rfl) ?_
  refine l_sld hx hb hX hbl hbA hI hs.2.1.1 hs.2.1.2 (dc tbL_law_7_k 15 rfl) ?_
  refine lv_aload_n hx hb (dc tbL_law_7_k 16 rfl) rfl (lv_at hl 0 rfl) ?_
  refine lv_iload hx hb (dc tbL_law_7_k 17 rfl) (lv_at hl 5 rfl) ?_
  refine lv_iconst (v := 2) hx hb (dc tbL_law_7_k 18 rfl) ic_2 ?_
  refine lv_iadd hx hb (dc tbL_law_7_k 19 rfl) ?_
  refine l_sld hx hb hX hbl hbA hI hs.2.2.1.1 hs.2.2.1.2 (dc tbL_law_7_k 20 rfl) ?_
  refine lv_aload_n hx hb (dc tbL_law_7_k 21 rfl) rfl (lv_at hl 3 rfl) ?_
  obtain ⟨M3, r2, q1, hf⟩ := calh_s hf
  refine l_callH (g_runH hx hb hml hown hts hK hap hsx hnc hI (tL_finishedCorner l hst hk0 hk1 q1 H.size) ch_L_finishedCorner q_t6_71 rfl rfl ⟨Nat.le_of_ble_eq_true rfl, Nat.le_of_ble_eq_true rfl⟩ rfl hl.1 rfl (Nat.le_of_ble_eq_true rfl) (dc tbL_law_7_k 22 rfl) ⟨by have := hc.1; show _ ≤ 601024; omega, by have := hc.2; show _ ≤ 7293034; omega⟩) hI hJ hA hd1 (fun H locs hI hJ => ?_)
  refine lv_istore (lv' := [(6, .int r2), (0, .ref b), (1, .ref (ad 0)), (2, .ref (ad' 135)), (3, .ref (ad 152)), (4, .ref (ad 153)), (5, .int x5)]) hx hb (dc tbL_law_7_k 23 rfl) hl (by decide) rfl (fun ls hl => ?_)
  refine lv_aload_n hx hb (dc tbL_law_7_k 24 rfl) rfl (lv_at hl 3 rfl) ?_
  refine lv_aload_n hx hb (dc tbL_law_7_k 25 rfl) rfl (lv_at hl 1 rfl) ?_
  refine lv_iload hx hb (dc tbL_law_7_k 26 rfl) (lv_at hl 6 rfl) ?_
  refine lv_iconst (v := 1) hx hb (dc tbL_law_7_k 27 rfl) ic_1 ?_
  refine lv_iadd hx hb (dc tbL_law_7_k 28 rfl) ?_
  refine l_sld hx hb hX hbl hbA hI hs.2.1.1 hs.2.1.2 (dc tbL_law_7_k 29 rfl) ?_
  refine lv_aload_n hx hb (dc tbL_law_7_k 30 rfl) rfl (lv_at hl 1 rfl) ?_
  refine lv_iload hx hb (dc tbL_law_7_k 31 rfl) (lv_at hl 6 rfl) ?_
  refine lv_iconst (v := 2) hx hb (dc tbL_law_7_k 32 rfl) ic_2 ?_
  refine lv_iadd hx hb (dc tbL_law_7_k 33 rfl) ?_
  refine l_sld hx hb hX hbl hbA hI hs.2.2.1.1 hs.2.2.1.2 (dc tbL_law_7_k 34 rfl) ?_
  obtain ⟨N6, r5, q4, hf⟩ := cal_s hf
  refine l_calli (g_runV hx hb hml hown hts hK hap2 hsx2 hJ (tX7_finishedCorner l hk2 q4 H.size) cv_X7_finishedCorner q_t8_178 rfl rfl ⟨Nat.le_of_ble_eq_true rfl, Nat.le_of_ble_eq_true rfl⟩ hk2.1 (by simp) rfl rfl rfl hl.1 rfl (Nat.le_of_ble_eq_true rfl) (dc tbL_law_7_k 35 rfl) ⟨by have := hc.1; show _ ≤ 601024; omega, by have := hc.2; show _ ≤ 7293034; omega⟩) hJ hI hA.symm hd2 (fun H locs hJ hI => ?_)
  refine lv_istore (lv' := [(7, .int r5), (6, .int r2), (0, .ref b), (1, .ref (ad 0)), (2, .ref (ad' 135)), (3, .ref (ad 152)), (4, .ref (ad 153)), (5, .int x5)]) hx hb (dc tbL_law_7_k 36 rfl) hl (by decide) rfl (fun ls hl => ?_)
  refine lv_goto (tgt := 1738) hx hb (dc tbL_law_7_k 37 rfl) rfl ?_
  obtain ⟨h7, hf⟩ := chk_s hf
  cases hf
  refine W.widen (k := cells + 64) (n := slots + 4096) (by omega) (by omega) ?_
  exact hk _ _ _ _ _ C (by rw [of_decide_eq_true h7]; exact hS) hI hJ (lv_sub hl [2, 3, 4, 5, 6, 7] rfl)
def mlc_20 (a1 a2 a3 a4 a5 : Int32) (M N : Mem) : Option (Mem × Mem) := cap (mX6_isSymmetric 0 M) (fun r2 => cal (mX7_isSymmetric 135 N) (fun N6 r5 => some (M, N6)))
set_option maxHeartbeats 4000000 in
set_option maxRecDepth 100000 in
theorem lc_20 (hc : cells + 64 ≤ 601024 ∧ slots + 4096 ≤ 7293034) {x5 a0 a1 a2 a3 a4 a5 : Int32} (hs : Sc xs L x5 a0 a1 a2 a3 a4 a5) {M N M' N' : Mem} (hf : mlc_20 a1 a2 a3 a4 a5 M N = some (M', N')) (hk : AtW p l e s m args below meth c L xs G kd' ad' b x5 M' N' Q (cells + 64) (slots + 4096) 1738) : AtW p l e s m args below meth c L xs G kd' ad' b x5 M N Q cells slots 753 := by
  intro kd ad H locs ls C hS hI hJ hl
  obtain ⟨hx, hb, hml, hown, hts, hK, hap, hap2, hsx, hsx2, hnc, hst, hA, hd1, hd2, hX, hbl, hbA, hk0, hLo, hk1, hk3, hk2⟩ := id C
  unfold mlc_20 at hf
  refine lv_aload_n hx hb (dc tbL_law_7_k 38 rfl) rfl (lv_at hl 1 rfl) ?_
  obtain ⟨r2, q1, hf⟩ := cap_s hf
  refine l_calli (g_runV hx hb hml hown hts hK hap hsx hI (tX6_isSymmetric l hk0 q1 H.size) cv_X6_isSymmetric q_t2_224 rfl rfl ⟨Nat.le_of_ble_eq_true rfl, Nat.le_of_ble_eq_true rfl⟩ hk0.1 (by simp) rfl rfl rfl hl.1 rfl (Nat.le_of_ble_eq_true rfl) (dc tbL_law_7_k 39 rfl) ⟨by have := hc.1; show _ ≤ 601024; omega, by have := hc.2; show _ ≤ 7293034; omega⟩) hI hJ hA hd1 (fun H locs hI hJ => ?_)
  refine lv_pop hx hb (dc tbL_law_8_k 0 rfl) rfl ?_
  refine lv_aload_n hx hb (dc tbL_law_8_k 1 rfl) rfl (lv_at hl 2 rfl) ?_
  obtain ⟨N6, r5, q4, hf⟩ := cal_s hf
  refine l_calli (g_runV hx hb hml hown hts hK hap2 hsx2 hJ (tX7_isSymmetric l hk2 q4 H.size) cv_X7_isSymmetric q_t8_131 rfl rfl ⟨Nat.le_of_ble_eq_true rfl, Nat.le_of_ble_eq_true rfl⟩ hk2.1 (by simp) rfl rfl rfl hl.1 rfl (Nat.le_of_ble_eq_true rfl) (dc tbL_law_8_k 2 rfl) ⟨by have := hc.1; show _ ≤ 601024; omega, by have := hc.2; show _ ≤ 7293034; omega⟩) hJ hI hA.symm hd2 (fun H locs hJ hI => ?_)
  refine lv_pop hx hb (dc tbL_law_8_k 3 rfl) rfl ?_
  refine lv_goto (tgt := 1738) hx hb (dc tbL_law_8_k 4 rfl) rfl ?_
  cases hf
  refine W.widen (k := cells + 64) (n := slots + 4096) (by omega) (by omega) ?_
  exact hk _ _ _ _ _ C hS hI hJ (lv_sub hl [0, 1, 2, 3, 4, 5] rfl)
def mlc_21 (a1 a2 a3 a4 a5 : Int32) (M N : Mem) : Option (Mem × Mem) := cap (mX6_longestLeg 0 M) (fun r2 => cal (mX7_longestLeg 135 N) (fun N6 r5 => some (M, N6)))
set_option maxHeartbeats 4000000 in
set_option maxRecDepth 100000 in
theorem lc_21 (hc : cells + 64 ≤ 601024 ∧ slots + 4096 ≤ 7293034) {x5 a0 a1 a2 a3 a4 a5 : Int32} (hs : Sc xs L x5 a0 a1 a2 a3 a4 a5) {M N M' N' : Mem} (hf : mlc_21 a1 a2 a3 a4 a5 M N = some (M', N')) (hk : AtW p l e s m args below meth c L xs G kd' ad' b x5 M' N' Q (cells + 64) (slots + 4096) 1738) : AtW p l e s m args below meth c L xs G kd' ad' b x5 M N Q cells slots 766 := by
  intro kd ad H locs ls C hS hI hJ hl
  obtain ⟨hx, hb, hml, hown, hts, hK, hap, hap2, hsx, hsx2, hnc, hst, hA, hd1, hd2, hX, hbl, hbA, hk0, hLo, hk1, hk3, hk2⟩ := id C
  unfold mlc_21 at hf
  refine lv_aload_n hx hb (dc tbL_law_8_k 5 rfl) rfl (lv_at hl 1 rfl) ?_
  obtain ⟨r2, q1, hf⟩ := cap_s hf
  refine l_calli (g_runV hx hb hml hown hts hK hap hsx hI (tX6_longestLeg l hk0 q1 H.size) cv_X6_longestLeg q_t2_236 rfl rfl ⟨Nat.le_of_ble_eq_true rfl, Nat.le_of_ble_eq_true rfl⟩ hk0.1 (by simp) rfl rfl rfl hl.1 rfl (Nat.le_of_ble_eq_true rfl) (dc tbL_law_8_k 6 rfl) ⟨by have := hc.1; show _ ≤ 601024; omega, by have := hc.2; show _ ≤ 7293034; omega⟩) hI hJ hA hd1 (fun H locs hI hJ => ?_)
  refine lv_pop hx hb (dc tbL_law_8_k 7 rfl) rfl ?_
  refine lv_aload_n hx hb (dc tbL_law_8_k 8 rfl) rfl (lv_at hl 2 rfl) ?_
  obtain ⟨N6, r5, q4, hf⟩ := cal_s hf
  refine l_calli (g_runV hx hb hml hown hts hK hap2 hsx2 hJ (tX7_longestLeg l hk2 q4 H.size) cv_X7_longestLeg q_t8_139 rfl rfl ⟨Nat.le_of_ble_eq_true rfl, Nat.le_of_ble_eq_true rfl⟩ hk2.1 (by simp) rfl rfl rfl hl.1 rfl (Nat.le_of_ble_eq_true rfl) (dc tbL_law_8_k 9 rfl) ⟨by have := hc.1; show _ ≤ 601024; omega, by have := hc.2; show _ ≤ 7293034; omega⟩) hJ hI hA.symm hd2 (fun H locs hJ hI => ?_)
  refine lv_pop hx hb (dc tbL_law_8_k 10 rfl) rfl ?_
  refine lv_goto (tgt := 1738) hx hb (dc tbL_law_8_k 11 rfl) rfl ?_
  cases hf
  refine W.widen (k := cells + 64) (n := slots + 4096) (by omega) (by omega) ?_
  exact hk _ _ _ _ _ C hS hI hJ (lv_sub hl [0, 1, 2, 3, 4, 5] rfl)
def mlc_22 (a1 a2 a3 a4 a5 : Int32) (M N : Mem) : Option (Mem × Mem) := cap (mX6_made 0 M) (fun r2 => cal (mX7_made 135 N) (fun N6 r5 => ite2 (r2 = r5) (some (M, N6)) (none)))
set_option maxHeartbeats 4000000 in
set_option maxRecDepth 100000 in
theorem lc_22 (hc : cells + 64 ≤ 601024 ∧ slots + 4096 ≤ 7293034) {x5 a0 a1 a2 a3 a4 a5 : Int32} (hs : Sc xs L x5 a0 a1 a2 a3 a4 a5) {M N M' N' : Mem} (hf : mlc_22 a1 a2 a3 a4 a5 M N = some (M', N')) (hk : AtW p l e s m args below meth c L xs G kd' ad' b x5 M' N' Q (cells + 64) (slots + 4096) 1738) : AtW p l e s m args below meth c L xs G kd' ad' b x5 M N Q cells slots 779 := by
  intro kd ad H locs ls C hS hI hJ hl
  obtain ⟨hx, hb, hml, hown, hts, hK, hap, hap2, hsx, hsx2, hnc, hst, hA, hd1, hd2, hX, hbl, hbA, hk0, hLo, hk1, hk3, hk2⟩ := id C
  unfold mlc_22 at hf
  refine lv_aload_n hx hb (dc tbL_law_8_k 12 rfl) rfl (lv_at hl 1 rfl) ?_
  obtain ⟨r2, q1, hf⟩ := cap_s hf
  refine l_calli (g_runV hx hb hml hown hts hK hap hsx hI (tX6_made l hk0 q1 H.size) cv_X6_made q_t3_0 rfl rfl ⟨Nat.le_of_ble_eq_true rfl, Nat.le_of_ble_eq_true rfl⟩ hk0.1 (by simp) rfl rfl rfl hl.1 rfl (Nat.le_of_ble_eq_true rfl) (dc tbL_law_8_k 13 rfl) ⟨by have := hc.1; show _ ≤ 601024; omega, by have := hc.2; show _ ≤ 7293034; omega⟩) hI hJ hA hd1 (fun H locs hI hJ => ?_)
  refine lv_aload_n hx hb (dc tbL_law_8_k 14 rfl) rfl (lv_at hl 2 rfl) ?_
  obtain ⟨N6, r5, q4, hf⟩ := cal_s hf
  refine l_calli (g_runV hx hb hml hown hts hK hap2 hsx2 hJ (tX7_made l hk2 q4 H.size) cv_X7_made q_t8_186 rfl rfl ⟨Nat.le_of_ble_eq_true rfl, Nat.le_of_ble_eq_true rfl⟩ hk2.1 (by simp) rfl rfl rfl hl.1 rfl (Nat.le_of_ble_eq_true rfl) (dc tbL_law_8_k 15 rfl) ⟨by have := hc.1; show _ ≤ 601024; omega, by have := hc.2; show _ ≤ 7293034; omega⟩) hJ hI hA.symm hd2 (fun H locs hJ hI => ?_)
  refine lv_icmp_eq (tgt := 1738) hx hb (dc tbL_law_8_k 16 rfl) rfl (fun c7 => ?_) (fun c7 => ?_)
  · have hf := ite_t c7 hf
    cases hf
    refine W.widen (k := cells + 64) (n := slots + 4096) (by omega) (by omega) ?_
    exact hk _ _ _ _ _ C hS hI hJ (lv_sub hl [0, 1, 2, 3, 4, 5] rfl)
  · have hf := ite_f c7 hf
    refine lv_iconst (v := 0) hx hb (dc tbL_law_8_k 17 rfl) ic_0 ?_
    cases hf
def mlc_23 (a1 a2 a3 a4 a5 : Int32) (M N : Mem) : Option (Mem × Mem) := cap (mX6_steps 0 M) (fun r2 => cal (mX7_steps 135 N) (fun N6 r5 => some (M, N6)))
set_option maxHeartbeats 4000000 in
set_option maxRecDepth 100000 in
theorem lc_23 (hc : cells + 64 ≤ 601024 ∧ slots + 4096 ≤ 7293034) {x5 a0 a1 a2 a3 a4 a5 : Int32} (hs : Sc xs L x5 a0 a1 a2 a3 a4 a5) {M N M' N' : Mem} (hf : mlc_23 a1 a2 a3 a4 a5 M N = some (M', N')) (hk : AtW p l e s m args below meth c L xs G kd' ad' b x5 M' N' Q (cells + 64) (slots + 4096) 1738) : AtW p l e s m args below meth c L xs G kd' ad' b x5 M N Q cells slots 792 := by
  intro kd ad H locs ls C hS hI hJ hl
  obtain ⟨hx, hb, hml, hown, hts, hK, hap, hap2, hsx, hsx2, hnc, hst, hA, hd1, hd2, hX, hbl, hbA, hk0, hLo, hk1, hk3, hk2⟩ := id C
  unfold mlc_23 at hf
  refine lv_aload_n hx hb (dc tbL_law_8_k 19 rfl) rfl (lv_at hl 1 rfl) ?_
  obtain ⟨r2, q1, hf⟩ := cap_s hf
  refine l_calli (g_runV hx hb hml hown hts hK hap hsx hI (tX6_steps l hk0 q1 H.size) cv_X6_steps q_t3_4 rfl rfl ⟨Nat.le_of_ble_eq_true rfl, Nat.le_of_ble_eq_true rfl⟩ hk0.1 (by simp) rfl rfl rfl hl.1 rfl (Nat.le_of_ble_eq_true rfl) (dc tbL_law_8_k 20 rfl) ⟨by have := hc.1; show _ ≤ 601024; omega, by have := hc.2; show _ ≤ 7293034; omega⟩) hI hJ hA hd1 (fun H locs hI hJ => ?_)
  refine lv_pop hx hb (dc tbL_law_8_k 21 rfl) rfl ?_
  refine lv_aload_n hx hb (dc tbL_law_8_k 22 rfl) rfl (lv_at hl 2 rfl) ?_
  obtain ⟨N6, r5, q4, hf⟩ := cal_s hf
  refine l_calli (g_runV hx hb hml hown hts hK hap2 hsx2 hJ (tX7_steps l hk2 q4 H.size) cv_X7_steps q_t8_190 rfl rfl ⟨Nat.le_of_ble_eq_true rfl, Nat.le_of_ble_eq_true rfl⟩ hk2.1 (by simp) rfl rfl rfl hl.1 rfl (Nat.le_of_ble_eq_true rfl) (dc tbL_law_8_k 23 rfl) ⟨by have := hc.1; show _ ≤ 601024; omega, by have := hc.2; show _ ≤ 7293034; omega⟩) hJ hI hA.symm hd2 (fun H locs hJ hI => ?_)
  refine lv_pop hx hb (dc tbL_law_8_k 24 rfl) rfl ?_
  refine lv_goto (tgt := 1738) hx hb (dc tbL_law_8_k 25 rfl) rfl ?_
  cases hf
  refine W.widen (k := cells + 64) (n := slots + 4096) (by omega) (by omega) ?_
  exact hk _ _ _ _ _ C hS hI hJ (lv_sub hl [0, 1, 2, 3, 4, 5] rfl)
def mlc_24 (a1 a2 a3 a4 a5 : Int32) (M N : Mem) : Option (Mem × Mem) := calh (mL_step 0 152 a1 a2 M) (fun M3 r2 => cal (mX7_step 135 a1 a2 N) (fun N6 r5 => chk (decide (rd M3 133 0 = rd M 133 0)) (some (M3, N6))))
set_option maxHeartbeats 4000000 in
set_option maxRecDepth 100000 in
theorem lc_24 (hc : cells + 64 ≤ 601024 ∧ slots + 4096 ≤ 7293034) {x5 a0 a1 a2 a3 a4 a5 : Int32} (hs : Sc xs L x5 a0 a1 a2 a3 a4 a5) {M N M' N' : Mem} (hf : mlc_24 a1 a2 a3 a4 a5 M N = some (M', N')) (hk : AtW p l e s m args below meth c L xs G kd' ad' b x5 M' N' Q (cells + 64) (slots + 4096) 1738) : AtW p l e s m args below meth c L xs G kd' ad' b x5 M N Q cells slots 805 := by
  intro kd ad H locs ls C hS hI hJ hl
  obtain ⟨hx, hb, hml, hown, hts, hK, hap, hap2, hsx, hsx2, hnc, hst, hA, hd1, hd2, hX, hbl, hbA, hk0, hLo, hk1, hk3, hk2⟩ := id C
  unfold mlc_24 at hf
  refine lv_aload_n hx hb (dc tbL_law_8_k 26 rfl) rfl (lv_at hl 1 rfl) ?_
  refine lv_aload_n hx hb (dc tbL_law_8_k 27 rfl) rfl (lv_at hl 0 rfl) ?_
  refine lv_iload hx hb (dc tbL_law_8_k 28 rfl) (lv_at hl 5 rfl) ?_
  refine lv_iconst (v := 1) hx hb (dc tbL_law_8_k 29 rfl) ic_1 ?_
  refine lv_iadd hx hb (dc tbL_law_8_k 30 rfl) ?_
  refine l_sld hx hb hX hbl hbA hI hs.2.1.1 hs.2.1.2 (dc tbL_law_8_k 31 rfl) ?_
  refine lv_aload_n hx hb (dc tbL_law_8_k 32 rfl) rfl (lv_at hl 0 rfl) ?_
  refine lv_iload hx hb (dc tbL_law_8_k 33 rfl) (lv_at hl 5 rfl) ?_
  refine lv_iconst (v := 2) hx hb (dc tbL_law_8_k 34 rfl) ic_2 ?_
  refine lv_iadd hx hb (dc tbL_law_8_k 35 rfl) ?_
  refine l_sld hx hb hX hbl hbA hI hs.2.2.1.1 hs.2.2.1.2 (dc tbL_law_8_k 36 rfl) ?_
  refine lv_aload_n hx hb (dc tbL_law_8_k 37 rfl) rfl (lv_at hl 3 rfl) ?_
  obtain ⟨M3, r2, q1, hf⟩ := calh_s hf
  refine l_callH (g_runH hx hb hml hown hts hK hap hsx hnc hI (tL_step l hst hk0 hk1 q1 H.size) ch_L_step q_t6_82 rfl rfl ⟨Nat.le_of_ble_eq_true rfl, Nat.le_of_ble_eq_true rfl⟩ rfl hl.1 rfl (Nat.le_of_ble_eq_true rfl) (dc tbL_law_8_k 38 rfl) ⟨by have := hc.1; show _ ≤ 601024; omega, by have := hc.2; show _ ≤ 7293034; omega⟩) hI hJ hA hd1 (fun H locs hI hJ => ?_)
  refine lv_istore (lv' := [(6, .int r2), (0, .ref b), (1, .ref (ad 0)), (2, .ref (ad' 135)), (3, .ref (ad 152)), (4, .ref (ad 153)), (5, .int x5)]) hx hb (dc tbL_law_8_k 39 rfl) hl (by decide) rfl (fun ls hl => ?_)
  refine lv_aload_n hx hb (dc tbL_law_9_k 0 rfl) rfl (lv_at hl 3 rfl) ?_
  refine lv_aload_n hx hb (dc tbL_law_9_k 1 rfl) rfl (lv_at hl 1 rfl) ?_
  refine lv_iload hx hb (dc tbL_law_9_k 2 rfl) (lv_at hl 6 rfl) ?_
  refine lv_iconst (v := 1) hx hb (dc tbL_law_9_k 3 rfl) ic_1 ?_
  refine lv_iadd hx hb (dc tbL_law_9_k 4 rfl) ?_
  refine l_sld hx hb hX hbl hbA hI hs.2.1.1 hs.2.1.2 (dc tbL_law_9_k 5 rfl) ?_
  refine lv_aload_n hx hb (dc tbL_law_9_k 6 rfl) rfl (lv_at hl 1 rfl) ?_
  refine lv_iload hx hb (dc tbL_law_9_k 7 rfl) (lv_at hl 6 rfl) ?_
  refine lv_iconst (v := 2) hx hb (dc tbL_law_9_k 8 rfl) ic_2 ?_
  refine lv_iadd hx hb (dc tbL_law_9_k 9 rfl) ?_
  refine l_sld hx hb hX hbl hbA hI hs.2.2.1.1 hs.2.2.1.2 (dc tbL_law_9_k 10 rfl) ?_
  obtain ⟨N6, r5, q4, hf⟩ := cal_s hf
  refine l_calli (g_runV hx hb hml hown hts hK hap2 hsx2 hJ (tX7_step l hk2 q4 H.size) cv_X7_step q_t8_194 rfl rfl ⟨Nat.le_of_ble_eq_true rfl, Nat.le_of_ble_eq_true rfl⟩ hk2.1 (by simp) rfl rfl rfl hl.1 rfl (Nat.le_of_ble_eq_true rfl) (dc tbL_law_9_k 11 rfl) ⟨by have := hc.1; show _ ≤ 601024; omega, by have := hc.2; show _ ≤ 7293034; omega⟩) hJ hI hA.symm hd2 (fun H locs hJ hI => ?_)
  refine lv_istore (lv' := [(7, .int r5), (6, .int r2), (0, .ref b), (1, .ref (ad 0)), (2, .ref (ad' 135)), (3, .ref (ad 152)), (4, .ref (ad 153)), (5, .int x5)]) hx hb (dc tbL_law_9_k 12 rfl) hl (by decide) rfl (fun ls hl => ?_)
  refine lv_goto (tgt := 1738) hx hb (dc tbL_law_9_k 13 rfl) rfl ?_
  obtain ⟨h7, hf⟩ := chk_s hf
  cases hf
  refine W.widen (k := cells + 64) (n := slots + 4096) (by omega) (by omega) ?_
  exact hk _ _ _ _ _ C (by rw [of_decide_eq_true h7]; exact hS) hI hJ (lv_sub hl [2, 3, 4, 5, 6, 7] rfl)
def mlc_25 (a1 a2 a3 a4 a5 : Int32) (M N : Mem) : Option (Mem × Mem) := cap (mX6_costSoFar 0 M) (fun r2 => cal (mX7_costSoFar 135 N) (fun N6 r5 => some (M, N6)))
set_option maxHeartbeats 4000000 in
set_option maxRecDepth 100000 in
theorem lc_25 (hc : cells + 64 ≤ 601024 ∧ slots + 4096 ≤ 7293034) {x5 a0 a1 a2 a3 a4 a5 : Int32} (hs : Sc xs L x5 a0 a1 a2 a3 a4 a5) {M N M' N' : Mem} (hf : mlc_25 a1 a2 a3 a4 a5 M N = some (M', N')) (hk : AtW p l e s m args below meth c L xs G kd' ad' b x5 M' N' Q (cells + 64) (slots + 4096) 1738) : AtW p l e s m args below meth c L xs G kd' ad' b x5 M N Q cells slots 845 := by
  intro kd ad H locs ls C hS hI hJ hl
  obtain ⟨hx, hb, hml, hown, hts, hK, hap, hap2, hsx, hsx2, hnc, hst, hA, hd1, hd2, hX, hbl, hbA, hk0, hLo, hk1, hk3, hk2⟩ := id C
  unfold mlc_25 at hf
  refine lv_aload_n hx hb (dc tbL_law_9_k 14 rfl) rfl (lv_at hl 1 rfl) ?_
  obtain ⟨r2, q1, hf⟩ := cap_s hf
  refine l_calli (g_runV hx hb hml hown hts hK hap hsx hI (tX6_costSoFar l hk0 q1 H.size) cv_X6_costSoFar q_t3_8 rfl rfl ⟨Nat.le_of_ble_eq_true rfl, Nat.le_of_ble_eq_true rfl⟩ hk0.1 (by simp) rfl rfl rfl hl.1 rfl (Nat.le_of_ble_eq_true rfl) (dc tbL_law_9_k 15 rfl) ⟨by have := hc.1; show _ ≤ 601024; omega, by have := hc.2; show _ ≤ 7293034; omega⟩) hI hJ hA hd1 (fun H locs hI hJ => ?_)
  refine lv_pop hx hb (dc tbL_law_9_k 16 rfl) rfl ?_
  refine lv_aload_n hx hb (dc tbL_law_9_k 17 rfl) rfl (lv_at hl 2 rfl) ?_
  obtain ⟨N6, r5, q4, hf⟩ := cal_s hf
  refine l_calli (g_runV hx hb hml hown hts hK hap2 hsx2 hJ (tX7_costSoFar l hk2 q4 H.size) cv_X7_costSoFar q_t8_203 rfl rfl ⟨Nat.le_of_ble_eq_true rfl, Nat.le_of_ble_eq_true rfl⟩ hk2.1 (by simp) rfl rfl rfl hl.1 rfl (Nat.le_of_ble_eq_true rfl) (dc tbL_law_9_k 18 rfl) ⟨by have := hc.1; show _ ≤ 601024; omega, by have := hc.2; show _ ≤ 7293034; omega⟩) hJ hI hA.symm hd2 (fun H locs hJ hI => ?_)
  refine lv_pop hx hb (dc tbL_law_9_k 19 rfl) rfl ?_
  refine lv_goto (tgt := 1738) hx hb (dc tbL_law_9_k 20 rfl) rfl ?_
  cases hf
  refine W.widen (k := cells + 64) (n := slots + 4096) (by omega) (by omega) ?_
  exact hk _ _ _ _ _ C hS hI hJ (lv_sub hl [0, 1, 2, 3, 4, 5] rfl)
def mlc_26 (a1 a2 a3 a4 a5 : Int32) (M N : Mem) : Option (Mem × Mem) := calh (mL_reason 0 152 a1 a2 M) (fun M3 r2 => cal (mX7_reason 135 a1 a2 N) (fun N6 r5 => chk (decide (rd M3 133 0 = rd M 133 0)) (some (M3, N6))))
set_option maxHeartbeats 4000000 in
set_option maxRecDepth 100000 in
theorem lc_26 (hc : cells + 64 ≤ 601024 ∧ slots + 4096 ≤ 7293034) {x5 a0 a1 a2 a3 a4 a5 : Int32} (hs : Sc xs L x5 a0 a1 a2 a3 a4 a5) {M N M' N' : Mem} (hf : mlc_26 a1 a2 a3 a4 a5 M N = some (M', N')) (hk : AtW p l e s m args below meth c L xs G kd' ad' b x5 M' N' Q (cells + 64) (slots + 4096) 1738) : AtW p l e s m args below meth c L xs G kd' ad' b x5 M N Q cells slots 858 := by
  intro kd ad H locs ls C hS hI hJ hl
  obtain ⟨hx, hb, hml, hown, hts, hK, hap, hap2, hsx, hsx2, hnc, hst, hA, hd1, hd2, hX, hbl, hbA, hk0, hLo, hk1, hk3, hk2⟩ := id C
  unfold mlc_26 at hf
  refine lv_aload_n hx hb (dc tbL_law_9_k 21 rfl) rfl (lv_at hl 1 rfl) ?_
  refine lv_aload_n hx hb (dc tbL_law_9_k 22 rfl) rfl (lv_at hl 0 rfl) ?_
  refine lv_iload hx hb (dc tbL_law_9_k 23 rfl) (lv_at hl 5 rfl) ?_
  refine lv_iconst (v := 1) hx hb (dc tbL_law_9_k 24 rfl) ic_1 ?_
  refine lv_iadd hx hb (dc tbL_law_9_k 25 rfl) ?_
  refine l_sld hx hb hX hbl hbA hI hs.2.1.1 hs.2.1.2 (dc tbL_law_9_k 26 rfl) ?_
  refine lv_aload_n hx hb (dc tbL_law_9_k 27 rfl) rfl (lv_at hl 0 rfl) ?_
  refine lv_iload hx hb (dc tbL_law_9_k 28 rfl) (lv_at hl 5 rfl) ?_
  refine lv_iconst (v := 2) hx hb (dc tbL_law_9_k 29 rfl) ic_2 ?_
  refine lv_iadd hx hb (dc tbL_law_9_k 30 rfl) ?_
  refine l_sld hx hb hX hbl hbA hI hs.2.2.1.1 hs.2.2.1.2 (dc tbL_law_9_k 31 rfl) ?_
  refine lv_aload_n hx hb (dc tbL_law_9_k 32 rfl) rfl (lv_at hl 3 rfl) ?_
  obtain ⟨M3, r2, q1, hf⟩ := calh_s hf
  refine l_callH (g_runH hx hb hml hown hts hK hap hsx hnc hI (tL_reason l hst hk0 hk1 q1 H.size) ch_L_reason q_t6_90 rfl rfl ⟨Nat.le_of_ble_eq_true rfl, Nat.le_of_ble_eq_true rfl⟩ rfl hl.1 rfl (Nat.le_of_ble_eq_true rfl) (dc tbL_law_9_k 33 rfl) ⟨by have := hc.1; show _ ≤ 601024; omega, by have := hc.2; show _ ≤ 7293034; omega⟩) hI hJ hA hd1 (fun H locs hI hJ => ?_)
  refine lv_istore (lv' := [(6, .int r2), (0, .ref b), (1, .ref (ad 0)), (2, .ref (ad' 135)), (3, .ref (ad 152)), (4, .ref (ad 153)), (5, .int x5)]) hx hb (dc tbL_law_9_k 34 rfl) hl (by decide) rfl (fun ls hl => ?_)
  refine lv_aload_n hx hb (dc tbL_law_9_k 35 rfl) rfl (lv_at hl 3 rfl) ?_
  refine lv_aload_n hx hb (dc tbL_law_9_k 36 rfl) rfl (lv_at hl 1 rfl) ?_
  refine lv_iload hx hb (dc tbL_law_9_k 37 rfl) (lv_at hl 6 rfl) ?_
  refine lv_iconst (v := 1) hx hb (dc tbL_law_9_k 38 rfl) ic_1 ?_
  refine lv_iadd hx hb (dc tbL_law_9_k 39 rfl) ?_
  refine l_sld hx hb hX hbl hbA hI hs.2.1.1 hs.2.1.2 (dc tbL_law_10_k 0 rfl) ?_
  refine lv_aload_n hx hb (dc tbL_law_10_k 1 rfl) rfl (lv_at hl 1 rfl) ?_
  refine lv_iload hx hb (dc tbL_law_10_k 2 rfl) (lv_at hl 6 rfl) ?_
  refine lv_iconst (v := 2) hx hb (dc tbL_law_10_k 3 rfl) ic_2 ?_
  refine lv_iadd hx hb (dc tbL_law_10_k 4 rfl) ?_
  refine l_sld hx hb hX hbl hbA hI hs.2.2.1.1 hs.2.2.1.2 (dc tbL_law_10_k 5 rfl) ?_
  obtain ⟨N6, r5, q4, hf⟩ := cal_s hf
  refine l_calli (g_runV hx hb hml hown hts hK hap2 hsx2 hJ (tX7_reason l hk2 q4 H.size) cv_X7_reason q_t8_211 rfl rfl ⟨Nat.le_of_ble_eq_true rfl, Nat.le_of_ble_eq_true rfl⟩ hk2.1 (by simp) rfl rfl rfl hl.1 rfl (Nat.le_of_ble_eq_true rfl) (dc tbL_law_10_k 6 rfl) ⟨by have := hc.1; show _ ≤ 601024; omega, by have := hc.2; show _ ≤ 7293034; omega⟩) hJ hI hA.symm hd2 (fun H locs hJ hI => ?_)
  refine lv_istore (lv' := [(7, .int r5), (6, .int r2), (0, .ref b), (1, .ref (ad 0)), (2, .ref (ad' 135)), (3, .ref (ad 152)), (4, .ref (ad 153)), (5, .int x5)]) hx hb (dc tbL_law_10_k 7 rfl) hl (by decide) rfl (fun ls hl => ?_)
  refine lv_goto (tgt := 1738) hx hb (dc tbL_law_10_k 8 rfl) rfl ?_
  obtain ⟨h7, hf⟩ := chk_s hf
  cases hf
  refine W.widen (k := cells + 64) (n := slots + 4096) (by omega) (by omega) ?_
  exact hk _ _ _ _ _ C (by rw [of_decide_eq_true h7]; exact hS) hI hJ (lv_sub hl [2, 3, 4, 5, 6, 7] rfl)
def mlc_27 (a1 a2 a3 a4 a5 : Int32) (M N : Mem) : Option (Mem × Mem) := calh (mL_gauge 0 152 a1 a2 M) (fun M3 r2 => cal (mX7_gauge 135 a1 a2 N) (fun N6 r5 => chk (decide (rd M3 133 0 = rd M 133 0)) (some (M3, N6))))
set_option maxHeartbeats 4000000 in
set_option maxRecDepth 100000 in
theorem lc_27 (hc : cells + 64 ≤ 601024 ∧ slots + 4096 ≤ 7293034) {x5 a0 a1 a2 a3 a4 a5 : Int32} (hs : Sc xs L x5 a0 a1 a2 a3 a4 a5) {M N M' N' : Mem} (hf : mlc_27 a1 a2 a3 a4 a5 M N = some (M', N')) (hk : AtW p l e s m args below meth c L xs G kd' ad' b x5 M' N' Q (cells + 64) (slots + 4096) 1738) : AtW p l e s m args below meth c L xs G kd' ad' b x5 M N Q cells slots 898 := by
  intro kd ad H locs ls C hS hI hJ hl
  obtain ⟨hx, hb, hml, hown, hts, hK, hap, hap2, hsx, hsx2, hnc, hst, hA, hd1, hd2, hX, hbl, hbA, hk0, hLo, hk1, hk3, hk2⟩ := id C
  unfold mlc_27 at hf
  refine lv_aload_n hx hb (dc tbL_law_10_k 9 rfl) rfl (lv_at hl 1 rfl) ?_
  refine lv_aload_n hx hb (dc tbL_law_10_k 10 rfl) rfl (lv_at hl 0 rfl) ?_
  refine lv_iload hx hb (dc tbL_law_10_k 11 rfl) (lv_at hl 5 rfl) ?_
  refine lv_iconst (v := 1) hx hb (dc tbL_law_10_k 12 rfl) ic_1 ?_
  refine lv_iadd hx hb (dc tbL_law_10_k 13 rfl) ?_
  refine l_sld hx hb hX hbl hbA hI hs.2.1.1 hs.2.1.2 (dc tbL_law_10_k 14 rfl) ?_
  refine lv_aload_n hx hb (dc tbL_law_10_k 15 rfl) rfl (lv_at hl 0 rfl) ?_
  refine lv_iload hx hb (dc tbL_law_10_k 16 rfl) (lv_at hl 5 rfl) ?_
  refine lv_iconst (v := 2) hx hb (dc tbL_law_10_k 17 rfl) ic_2 ?_
  refine lv_iadd hx hb (dc tbL_law_10_k 18 rfl) ?_
  refine l_sld hx hb hX hbl hbA hI hs.2.2.1.1 hs.2.2.1.2 (dc tbL_law_10_k 19 rfl) ?_
  refine lv_aload_n hx hb (dc tbL_law_10_k 20 rfl) rfl (lv_at hl 3 rfl) ?_
  obtain ⟨M3, r2, q1, hf⟩ := calh_s hf
  refine l_callH (g_runH hx hb hml hown hts hK hap hsx hnc hI (tL_gauge l hst hk0 hk1 q1 H.size) ch_L_gauge q_t6_106 rfl rfl ⟨Nat.le_of_ble_eq_true rfl, Nat.le_of_ble_eq_true rfl⟩ rfl hl.1 rfl (Nat.le_of_ble_eq_true rfl) (dc tbL_law_10_k 21 rfl) ⟨by have := hc.1; show _ ≤ 601024; omega, by have := hc.2; show _ ≤ 7293034; omega⟩) hI hJ hA hd1 (fun H locs hI hJ => ?_)
  refine lv_istore (lv' := [(6, .int r2), (0, .ref b), (1, .ref (ad 0)), (2, .ref (ad' 135)), (3, .ref (ad 152)), (4, .ref (ad 153)), (5, .int x5)]) hx hb (dc tbL_law_10_k 22 rfl) hl (by decide) rfl (fun ls hl => ?_)
  refine lv_aload_n hx hb (dc tbL_law_10_k 23 rfl) rfl (lv_at hl 3 rfl) ?_
  refine lv_aload_n hx hb (dc tbL_law_10_k 24 rfl) rfl (lv_at hl 1 rfl) ?_
  refine lv_iload hx hb (dc tbL_law_10_k 25 rfl) (lv_at hl 6 rfl) ?_
  refine lv_iconst (v := 1) hx hb (dc tbL_law_10_k 26 rfl) ic_1 ?_
  refine lv_iadd hx hb (dc tbL_law_10_k 27 rfl) ?_
  refine l_sld hx hb hX hbl hbA hI hs.2.1.1 hs.2.1.2 (dc tbL_law_10_k 28 rfl) ?_
  refine lv_aload_n hx hb (dc tbL_law_10_k 29 rfl) rfl (lv_at hl 1 rfl) ?_
  refine lv_iload hx hb (dc tbL_law_10_k 30 rfl) (lv_at hl 6 rfl) ?_
  refine lv_iconst (v := 2) hx hb (dc tbL_law_10_k 31 rfl) ic_2 ?_
  refine lv_iadd hx hb (dc tbL_law_10_k 32 rfl) ?_
  refine l_sld hx hb hX hbl hbA hI hs.2.2.1.1 hs.2.2.1.2 (dc tbL_law_10_k 33 rfl) ?_
  obtain ⟨N6, r5, q4, hf⟩ := cal_s hf
  refine l_calli (g_runV hx hb hml hown hts hK hap2 hsx2 hJ (tX7_gauge l hk2 q4 H.size) cv_X7_gauge q_t9_40 rfl rfl ⟨Nat.le_of_ble_eq_true rfl, Nat.le_of_ble_eq_true rfl⟩ hk2.1 (by simp) rfl rfl rfl hl.1 rfl (Nat.le_of_ble_eq_true rfl) (dc tbL_law_10_k 34 rfl) ⟨by have := hc.1; show _ ≤ 601024; omega, by have := hc.2; show _ ≤ 7293034; omega⟩) hJ hI hA.symm hd2 (fun H locs hJ hI => ?_)
  refine lv_istore (lv' := [(7, .int r5), (6, .int r2), (0, .ref b), (1, .ref (ad 0)), (2, .ref (ad' 135)), (3, .ref (ad 152)), (4, .ref (ad 153)), (5, .int x5)]) hx hb (dc tbL_law_10_k 35 rfl) hl (by decide) rfl (fun ls hl => ?_)
  refine lv_goto (tgt := 1738) hx hb (dc tbL_law_10_k 36 rfl) rfl ?_
  obtain ⟨h7, hf⟩ := chk_s hf
  cases hf
  refine W.widen (k := cells + 64) (n := slots + 4096) (by omega) (by omega) ?_
  exact hk _ _ _ _ _ C (by rw [of_decide_eq_true h7]; exact hS) hI hJ (lv_sub hl [2, 3, 4, 5, 6, 7] rfl)
def mlc_28 (a1 a2 a3 a4 a5 : Int32) (M N : Mem) : Option (Mem × Mem) := calh (mL_corner 0 152 a1 a2 a3 a4 M) (fun M3 r2 => cal (mX7_corner 135 a1 a2 a3 a4 N) (fun N6 r5 => chk (decide (rd M3 133 0 = rd M 133 0)) (some (M3, N6))))
set_option maxHeartbeats 4000000 in
set_option maxRecDepth 100000 in
theorem lc_28 (hc : cells + 64 ≤ 601024 ∧ slots + 4096 ≤ 7293034) {x5 a0 a1 a2 a3 a4 a5 : Int32} (hs : Sc xs L x5 a0 a1 a2 a3 a4 a5) {M N M' N' : Mem} (hf : mlc_28 a1 a2 a3 a4 a5 M N = some (M', N')) (hk : AtW p l e s m args below meth c L xs G kd' ad' b x5 M' N' Q (cells + 64) (slots + 4096) 1738) : AtW p l e s m args below meth c L xs G kd' ad' b x5 M N Q cells slots 938 := by
  intro kd ad H locs ls C hS hI hJ hl
  obtain ⟨hx, hb, hml, hown, hts, hK, hap, hap2, hsx, hsx2, hnc, hst, hA, hd1, hd2, hX, hbl, hbA, hk0, hLo, hk1, hk3, hk2⟩ := id C
  unfold mlc_28 at hf
  refine lv_aload_n hx hb (dc tbL_law_10_k 37 rfl) rfl (lv_at hl 1 rfl) ?_
  refine lv_aload_n hx hb (dc tbL_law_10_k 38 rfl) rfl (lv_at hl 0 rfl) ?_
  refine lv_iload hx hb (dc tbL_law_10_k 39 rfl) (lv_at hl 5 rfl) ?_
  refine lv_iconst (v := 1) hx hb (dc tbL_law_11_k 0 rfl) ic_1 ?_
  refine lv_iadd hx hb (dc tbL_law_11_k 1 rfl) ?_
  refine l_sld hx hb hX hbl hbA hI hs.2.1.1 hs.2.1.2 (dc tbL_law_11_k 2 rfl) ?_
  refine lv_aload_n hx hb (dc tbL_law_11_k 3 rfl) rfl (lv_at hl 0 rfl) ?_
  refine lv_iload hx hb (dc tbL_law_11_k 4 rfl) (lv_at hl 5 rfl) ?_
  refine lv_iconst (v := 2) hx hb (dc tbL_law_11_k 5 rfl) ic_2 ?_
  refine lv_iadd hx hb (dc tbL_law_11_k 6 rfl) ?_
  refine l_sld hx hb hX hbl hbA hI hs.2.2.1.1 hs.2.2.1.2 (dc tbL_law_11_k 7 rfl) ?_
  refine lv_aload_n hx hb (dc tbL_law_11_k 8 rfl) rfl (lv_at hl 0 rfl) ?_
  refine lv_iload hx hb (dc tbL_law_11_k 9 rfl) (lv_at hl 5 rfl) ?_
  refine lv_iconst (v := 3) hx hb (dc tbL_law_11_k 10 rfl) ic_3 ?_
  refine lv_iadd hx hb (dc tbL_law_11_k 11 rfl) ?_
  refine l_sld hx hb hX hbl hbA hI hs.2.2.2.1.1 hs.2.2.2.1.2 (dc tbL_law_11_k 12 rfl) ?_
  refine lv_aload_n hx hb (dc tbL_law_11_k 13 rfl) rfl (lv_at hl 0 rfl) ?_
  refine lv_iload hx hb (dc tbL_law_11_k 14 rfl) (lv_at hl 5 rfl) ?_
  refine lv_iconst (v := 4) hx hb (dc tbL_law_11_k 15 rfl) ic_4 ?_
  refine lv_iadd hx hb (dc tbL_law_11_k 16 rfl) ?_
  refine l_sld hx hb hX hbl hbA hI hs.2.2.2.2.1.1 hs.2.2.2.2.1.2 (dc tbL_law_11_k 17 rfl) ?_
  refine lv_aload_n hx hb (dc tbL_law_11_k 18 rfl) rfl (lv_at hl 3 rfl) ?_
  obtain ⟨M3, r2, q1, hf⟩ := calh_s hf
  refine l_callH (g_runH hx hb hml hown hts hK hap hsx hnc hI (tL_corner l hst hk0 hk1 q1 H.size) ch_L_corner q_t6_119 rfl rfl ⟨Nat.le_of_ble_eq_true rfl, Nat.le_of_ble_eq_true rfl⟩ rfl hl.1 rfl (Nat.le_of_ble_eq_true rfl) (dc tbL_law_11_k 19 rfl) ⟨by have := hc.1; show _ ≤ 601024; omega, by have := hc.2; show _ ≤ 7293034; omega⟩) hI hJ hA hd1 (fun H locs hI hJ => ?_)
  refine lv_istore (lv' := [(6, .int r2), (0, .ref b), (1, .ref (ad 0)), (2, .ref (ad' 135)), (3, .ref (ad 152)), (4, .ref (ad 153)), (5, .int x5)]) hx hb (dc tbL_law_11_k 20 rfl) hl (by decide) rfl (fun ls hl => ?_)
  refine lv_aload_n hx hb (dc tbL_law_11_k 21 rfl) rfl (lv_at hl 3 rfl) ?_
  refine lv_aload_n hx hb (dc tbL_law_11_k 22 rfl) rfl (lv_at hl 1 rfl) ?_
  refine lv_iload hx hb (dc tbL_law_11_k 23 rfl) (lv_at hl 6 rfl) ?_
  refine lv_iconst (v := 1) hx hb (dc tbL_law_11_k 24 rfl) ic_1 ?_
  refine lv_iadd hx hb (dc tbL_law_11_k 25 rfl) ?_
  refine l_sld hx hb hX hbl hbA hI hs.2.1.1 hs.2.1.2 (dc tbL_law_11_k 26 rfl) ?_
  refine lv_aload_n hx hb (dc tbL_law_11_k 27 rfl) rfl (lv_at hl 1 rfl) ?_
  refine lv_iload hx hb (dc tbL_law_11_k 28 rfl) (lv_at hl 6 rfl) ?_
  refine lv_iconst (v := 2) hx hb (dc tbL_law_11_k 29 rfl) ic_2 ?_
  refine lv_iadd hx hb (dc tbL_law_11_k 30 rfl) ?_
  refine l_sld hx hb hX hbl hbA hI hs.2.2.1.1 hs.2.2.1.2 (dc tbL_law_11_k 31 rfl) ?_
  refine lv_aload_n hx hb (dc tbL_law_11_k 32 rfl) rfl (lv_at hl 1 rfl) ?_
  refine lv_iload hx hb (dc tbL_law_11_k 33 rfl) (lv_at hl 6 rfl) ?_
  refine lv_iconst (v := 3) hx hb (dc tbL_law_11_k 34 rfl) ic_3 ?_
  refine lv_iadd hx hb (dc tbL_law_11_k 35 rfl) ?_
  refine l_sld hx hb hX hbl hbA hI hs.2.2.2.1.1 hs.2.2.2.1.2 (dc tbL_law_11_k 36 rfl) ?_
  refine lv_aload_n hx hb (dc tbL_law_11_k 37 rfl) rfl (lv_at hl 1 rfl) ?_
  refine lv_iload hx hb (dc tbL_law_11_k 38 rfl) (lv_at hl 6 rfl) ?_
  refine lv_iconst (v := 4) hx hb (dc tbL_law_11_k 39 rfl) ic_4 ?_
  refine lv_iadd hx hb (dc tbL_law_12_k 0 rfl) ?_
  refine l_sld hx hb hX hbl hbA hI hs.2.2.2.2.1.1 hs.2.2.2.2.1.2 (dc tbL_law_12_k 1 rfl) ?_
  obtain ⟨N6, r5, q4, hf⟩ := cal_s hf
  refine l_calli (g_runV hx hb hml hown hts hK hap2 hsx2 hJ (tX7_corner l hk2 q4 H.size) cv_X7_corner q_t9_48 rfl rfl ⟨Nat.le_of_ble_eq_true rfl, Nat.le_of_ble_eq_true rfl⟩ hk2.1 (by simp) rfl rfl rfl hl.1 rfl (Nat.le_of_ble_eq_true rfl) (dc tbL_law_12_k 2 rfl) ⟨by have := hc.1; show _ ≤ 601024; omega, by have := hc.2; show _ ≤ 7293034; omega⟩) hJ hI hA.symm hd2 (fun H locs hJ hI => ?_)
  refine lv_istore (lv' := [(7, .int r5), (6, .int r2), (0, .ref b), (1, .ref (ad 0)), (2, .ref (ad' 135)), (3, .ref (ad 152)), (4, .ref (ad 153)), (5, .int x5)]) hx hb (dc tbL_law_12_k 3 rfl) hl (by decide) rfl (fun ls hl => ?_)
  refine lv_goto (tgt := 1738) hx hb (dc tbL_law_12_k 4 rfl) rfl ?_
  obtain ⟨h7, hf⟩ := chk_s hf
  cases hf
  refine W.widen (k := cells + 64) (n := slots + 4096) (by omega) (by omega) ?_
  exact hk _ _ _ _ _ C (by rw [of_decide_eq_true h7]; exact hS) hI hJ (lv_sub hl [2, 3, 4, 5, 6, 7] rfl)
def mlc_29 (a1 a2 a3 a4 a5 : Int32) (M N : Mem) : Option (Mem × Mem) := calh (mL_top 0 152 a1 a2 M) (fun M3 r2 => cal (mX7_top 135 a1 a2 N) (fun N6 r5 => chk (decide (rd M3 133 0 = rd M 133 0)) (some (M3, N6))))
set_option maxHeartbeats 4000000 in
set_option maxRecDepth 100000 in
theorem lc_29 (hc : cells + 64 ≤ 601024 ∧ slots + 4096 ≤ 7293034) {x5 a0 a1 a2 a3 a4 a5 : Int32} (hs : Sc xs L x5 a0 a1 a2 a3 a4 a5) {M N M' N' : Mem} (hf : mlc_29 a1 a2 a3 a4 a5 M N = some (M', N')) (hk : AtW p l e s m args below meth c L xs G kd' ad' b x5 M' N' Q (cells + 64) (slots + 4096) 1738) : AtW p l e s m args below meth c L xs G kd' ad' b x5 M N Q cells slots 1002 := by
  intro kd ad H locs ls C hS hI hJ hl
  obtain ⟨hx, hb, hml, hown, hts, hK, hap, hap2, hsx, hsx2, hnc, hst, hA, hd1, hd2, hX, hbl, hbA, hk0, hLo, hk1, hk3, hk2⟩ := id C
  unfold mlc_29 at hf
  refine lv_aload_n hx hb (dc tbL_law_12_k 5 rfl) rfl (lv_at hl 1 rfl) ?_
  refine lv_aload_n hx hb (dc tbL_law_12_k 6 rfl) rfl (lv_at hl 0 rfl) ?_
  refine lv_iload hx hb (dc tbL_law_12_k 7 rfl) (lv_at hl 5 rfl) ?_
  refine lv_iconst (v := 1) hx hb (dc tbL_law_12_k 8 rfl) ic_1 ?_
  refine lv_iadd hx hb (dc tbL_law_12_k 9 rfl) ?_
  refine l_sld hx hb hX hbl hbA hI hs.2.1.1 hs.2.1.2 (dc tbL_law_12_k 10 rfl) ?_
  refine lv_aload_n hx hb (dc tbL_law_12_k 11 rfl) rfl (lv_at hl 0 rfl) ?_
  refine lv_iload hx hb (dc tbL_law_12_k 12 rfl) (lv_at hl 5 rfl) ?_
  refine lv_iconst (v := 2) hx hb (dc tbL_law_12_k 13 rfl) ic_2 ?_
  refine lv_iadd hx hb (dc tbL_law_12_k 14 rfl) ?_
  refine l_sld hx hb hX hbl hbA hI hs.2.2.1.1 hs.2.2.1.2 (dc tbL_law_12_k 15 rfl) ?_
  refine lv_aload_n hx hb (dc tbL_law_12_k 16 rfl) rfl (lv_at hl 3 rfl) ?_
  obtain ⟨M3, r2, q1, hf⟩ := calh_s hf
  refine l_callH (g_runH hx hb hml hown hts hK hap hsx hnc hI (tL_top l hst hk0 hk1 q1 H.size) ch_L_top q_t6_126 rfl rfl ⟨Nat.le_of_ble_eq_true rfl, Nat.le_of_ble_eq_true rfl⟩ rfl hl.1 rfl (Nat.le_of_ble_eq_true rfl) (dc tbL_law_12_k 17 rfl) ⟨by have := hc.1; show _ ≤ 601024; omega, by have := hc.2; show _ ≤ 7293034; omega⟩) hI hJ hA hd1 (fun H locs hI hJ => ?_)
  refine lv_istore (lv' := [(6, .int r2), (0, .ref b), (1, .ref (ad 0)), (2, .ref (ad' 135)), (3, .ref (ad 152)), (4, .ref (ad 153)), (5, .int x5)]) hx hb (dc tbL_law_12_k 18 rfl) hl (by decide) rfl (fun ls hl => ?_)
  refine lv_aload_n hx hb (dc tbL_law_12_k 19 rfl) rfl (lv_at hl 3 rfl) ?_
  refine lv_aload_n hx hb (dc tbL_law_12_k 20 rfl) rfl (lv_at hl 1 rfl) ?_
  refine lv_iload hx hb (dc tbL_law_12_k 21 rfl) (lv_at hl 6 rfl) ?_
  refine lv_iconst (v := 1) hx hb (dc tbL_law_12_k 22 rfl) ic_1 ?_
  refine lv_iadd hx hb (dc tbL_law_12_k 23 rfl) ?_
  refine l_sld hx hb hX hbl hbA hI hs.2.1.1 hs.2.1.2 (dc tbL_law_12_k 24 rfl) ?_
  refine lv_aload_n hx hb (dc tbL_law_12_k 25 rfl) rfl (lv_at hl 1 rfl) ?_
  refine lv_iload hx hb (dc tbL_law_12_k 26 rfl) (lv_at hl 6 rfl) ?_
  refine lv_iconst (v := 2) hx hb (dc tbL_law_12_k 27 rfl) ic_2 ?_
  refine lv_iadd hx hb (dc tbL_law_12_k 28 rfl) ?_
  refine l_sld hx hb hX hbl hbA hI hs.2.2.1.1 hs.2.2.1.2 (dc tbL_law_12_k 29 rfl) ?_
  obtain ⟨N6, r5, q4, hf⟩ := cal_s hf
  refine l_calli (g_runV hx hb hml hown hts hK hap2 hsx2 hJ (tX7_top l hk2 q4 H.size) cv_X7_top q_t9_52 rfl rfl ⟨Nat.le_of_ble_eq_true rfl, Nat.le_of_ble_eq_true rfl⟩ hk2.1 (by simp) rfl rfl rfl hl.1 rfl (Nat.le_of_ble_eq_true rfl) (dc tbL_law_12_k 30 rfl) ⟨by have := hc.1; show _ ≤ 601024; omega, by have := hc.2; show _ ≤ 7293034; omega⟩) hJ hI hA.symm hd2 (fun H locs hJ hI => ?_)
  refine lv_istore (lv' := [(7, .int r5), (6, .int r2), (0, .ref b), (1, .ref (ad 0)), (2, .ref (ad' 135)), (3, .ref (ad 152)), (4, .ref (ad 153)), (5, .int x5)]) hx hb (dc tbL_law_12_k 31 rfl) hl (by decide) rfl (fun ls hl => ?_)
  refine lv_goto (tgt := 1738) hx hb (dc tbL_law_12_k 32 rfl) rfl ?_
  obtain ⟨h7, hf⟩ := chk_s hf
  cases hf
  refine W.widen (k := cells + 64) (n := slots + 4096) (by omega) (by omega) ?_
  exact hk _ _ _ _ _ C (by rw [of_decide_eq_true h7]; exact hS) hI hJ (lv_sub hl [2, 3, 4, 5, 6, 7] rfl)
def mlc_30 (a1 a2 a3 a4 a5 : Int32) (M N : Mem) : Option (Mem × Mem) := calh (mL_hitting 0 152 a1 a2 M) (fun M3 r2 => cal (mX7_hitting 135 a1 a2 N) (fun N6 r5 => chk (decide (rd M3 133 0 = rd M 133 0)) (some (M3, N6))))
set_option maxHeartbeats 4000000 in
set_option maxRecDepth 100000 in
theorem lc_30 (hc : cells + 64 ≤ 601024 ∧ slots + 4096 ≤ 7293034) {x5 a0 a1 a2 a3 a4 a5 : Int32} (hs : Sc xs L x5 a0 a1 a2 a3 a4 a5) {M N M' N' : Mem} (hf : mlc_30 a1 a2 a3 a4 a5 M N = some (M', N')) (hk : AtW p l e s m args below meth c L xs G kd' ad' b x5 M' N' Q (cells + 64) (slots + 4096) 1738) : AtW p l e s m args below meth c L xs G kd' ad' b x5 M N Q cells slots 1042 := by
  intro kd ad H locs ls C hS hI hJ hl
  obtain ⟨hx, hb, hml, hown, hts, hK, hap, hap2, hsx, hsx2, hnc, hst, hA, hd1, hd2, hX, hbl, hbA, hk0, hLo, hk1, hk3, hk2⟩ := id C
  unfold mlc_30 at hf
  refine lv_aload_n hx hb (dc tbL_law_12_k 33 rfl) rfl (lv_at hl 1 rfl) ?_
  refine lv_aload_n hx hb (dc tbL_law_12_k 34 rfl) rfl (lv_at hl 0 rfl) ?_
  refine lv_iload hx hb (dc tbL_law_12_k 35 rfl) (lv_at hl 5 rfl) ?_
  refine lv_iconst (v := 1) hx hb (dc tbL_law_12_k 36 rfl) ic_1 ?_
  refine lv_iadd hx hb (dc tbL_law_12_k 37 rfl) ?_
  refine l_sld hx hb hX hbl hbA hI hs.2.1.1 hs.2.1.2 (dc tbL_law_12_k 38 rfl) ?_
  refine lv_aload_n hx hb (dc tbL_law_12_k 39 rfl) rfl (lv_at hl 0 rfl) ?_
  refine lv_iload hx hb (dc tbL_law_13_k 0 rfl) (lv_at hl 5 rfl) ?_
  refine lv_iconst (v := 2) hx hb (dc tbL_law_13_k 1 rfl) ic_2 ?_
  refine lv_iadd hx hb (dc tbL_law_13_k 2 rfl) ?_
  refine l_sld hx hb hX hbl hbA hI hs.2.2.1.1 hs.2.2.1.2 (dc tbL_law_13_k 3 rfl) ?_
  refine lv_aload_n hx hb (dc tbL_law_13_k 4 rfl) rfl (lv_at hl 3 rfl) ?_
  obtain ⟨M3, r2, q1, hf⟩ := calh_s hf
  refine l_callH (g_runH hx hb hml hown hts hK hap hsx hnc hI (tL_hitting l hst hk0 hk1 q1 H.size) ch_L_hitting q_t6_137 rfl rfl ⟨Nat.le_of_ble_eq_true rfl, Nat.le_of_ble_eq_true rfl⟩ rfl hl.1 rfl (Nat.le_of_ble_eq_true rfl) (dc tbL_law_13_k 5 rfl) ⟨by have := hc.1; show _ ≤ 601024; omega, by have := hc.2; show _ ≤ 7293034; omega⟩) hI hJ hA hd1 (fun H locs hI hJ => ?_)
  refine lv_istore (lv' := [(6, .int r2), (0, .ref b), (1, .ref (ad 0)), (2, .ref (ad' 135)), (3, .ref (ad 152)), (4, .ref (ad 153)), (5, .int x5)]) hx hb (dc tbL_law_13_k 6 rfl) hl (by decide) rfl (fun ls hl => ?_)
  refine lv_aload_n hx hb (dc tbL_law_13_k 7 rfl) rfl (lv_at hl 3 rfl) ?_
  refine lv_aload_n hx hb (dc tbL_law_13_k 8 rfl) rfl (lv_at hl 1 rfl) ?_
  refine lv_iload hx hb (dc tbL_law_13_k 9 rfl) (lv_at hl 6 rfl) ?_
  refine lv_iconst (v := 1) hx hb (dc tbL_law_13_k 10 rfl) ic_1 ?_
  refine lv_iadd hx hb (dc tbL_law_13_k 11 rfl) ?_
  refine l_sld hx hb hX hbl hbA hI hs.2.1.1 hs.2.1.2 (dc tbL_law_13_k 12 rfl) ?_
  refine lv_aload_n hx hb (dc tbL_law_13_k 13 rfl) rfl (lv_at hl 1 rfl) ?_
  refine lv_iload hx hb (dc tbL_law_13_k 14 rfl) (lv_at hl 6 rfl) ?_
  refine lv_iconst (v := 2) hx hb (dc tbL_law_13_k 15 rfl) ic_2 ?_
  refine lv_iadd hx hb (dc tbL_law_13_k 16 rfl) ?_
  refine l_sld hx hb hX hbl hbA hI hs.2.2.1.1 hs.2.2.1.2 (dc tbL_law_13_k 17 rfl) ?_
  obtain ⟨N6, r5, q4, hf⟩ := cal_s hf
  refine l_calli (g_runV hx hb hml hown hts hK hap2 hsx2 hJ (tX7_hitting l hk2 q4 H.size) cv_X7_hitting q_t9_56 rfl rfl ⟨Nat.le_of_ble_eq_true rfl, Nat.le_of_ble_eq_true rfl⟩ hk2.1 (by simp) rfl rfl rfl hl.1 rfl (Nat.le_of_ble_eq_true rfl) (dc tbL_law_13_k 18 rfl) ⟨by have := hc.1; show _ ≤ 601024; omega, by have := hc.2; show _ ≤ 7293034; omega⟩) hJ hI hA.symm hd2 (fun H locs hJ hI => ?_)
  refine lv_istore (lv' := [(7, .int r5), (6, .int r2), (0, .ref b), (1, .ref (ad 0)), (2, .ref (ad' 135)), (3, .ref (ad 152)), (4, .ref (ad 153)), (5, .int x5)]) hx hb (dc tbL_law_13_k 19 rfl) hl (by decide) rfl (fun ls hl => ?_)
  refine lv_goto (tgt := 1738) hx hb (dc tbL_law_13_k 20 rfl) rfl ?_
  obtain ⟨h7, hf⟩ := chk_s hf
  cases hf
  refine W.widen (k := cells + 64) (n := slots + 4096) (by omega) (by omega) ?_
  exact hk _ _ _ _ _ C (by rw [of_decide_eq_true h7]; exact hS) hI hJ (lv_sub hl [2, 3, 4, 5, 6, 7] rfl)
def mlc_31 (a1 a2 a3 a4 a5 : Int32) (M N : Mem) : Option (Mem × Mem) := calh (mL_refused 0 152 a1 M) (fun M3 r2 => cal (mX7_refused 135 a1 N) (fun N6 r5 => chk (decide (rd M3 133 0 = rd M 133 0)) (some (M3, N6))))
set_option maxHeartbeats 4000000 in
set_option maxRecDepth 100000 in
theorem lc_31 (hc : cells + 64 ≤ 601024 ∧ slots + 4096 ≤ 7293034) {x5 a0 a1 a2 a3 a4 a5 : Int32} (hs : Sc xs L x5 a0 a1 a2 a3 a4 a5) {M N M' N' : Mem} (hf : mlc_31 a1 a2 a3 a4 a5 M N = some (M', N')) (hk : AtW p l e s m args below meth c L xs G kd' ad' b x5 M' N' Q (cells + 64) (slots + 4096) 1738) : AtW p l e s m args below meth c L xs G kd' ad' b x5 M N Q cells slots 1082 := by
  intro kd ad H locs ls C hS hI hJ hl
  obtain ⟨hx, hb, hml, hown, hts, hK, hap, hap2, hsx, hsx2, hnc, hst, hA, hd1, hd2, hX, hbl, hbA, hk0, hLo, hk1, hk3, hk2⟩ := id C
  unfold mlc_31 at hf
  refine lv_aload_n hx hb (dc tbL_law_13_k 21 rfl) rfl (lv_at hl 1 rfl) ?_
  refine lv_aload_n hx hb (dc tbL_law_13_k 22 rfl) rfl (lv_at hl 0 rfl) ?_
  refine lv_iload hx hb (dc tbL_law_13_k 23 rfl) (lv_at hl 5 rfl) ?_
  refine lv_iconst (v := 1) hx hb (dc tbL_law_13_k 24 rfl) ic_1 ?_
  refine lv_iadd hx hb (dc tbL_law_13_k 25 rfl) ?_
  refine l_sld hx hb hX hbl hbA hI hs.2.1.1 hs.2.1.2 (dc tbL_law_13_k 26 rfl) ?_
  refine lv_aload_n hx hb (dc tbL_law_13_k 27 rfl) rfl (lv_at hl 3 rfl) ?_
  obtain ⟨M3, r2, q1, hf⟩ := calh_s hf
  refine l_callH (g_runH hx hb hml hown hts hK hap hsx hnc hI (tL_refused l hst hk0 hk1 q1 H.size) ch_L_refused q_t6_145 rfl rfl ⟨Nat.le_of_ble_eq_true rfl, Nat.le_of_ble_eq_true rfl⟩ rfl hl.1 rfl (Nat.le_of_ble_eq_true rfl) (dc tbL_law_13_k 28 rfl) ⟨by have := hc.1; show _ ≤ 601024; omega, by have := hc.2; show _ ≤ 7293034; omega⟩) hI hJ hA hd1 (fun H locs hI hJ => ?_)
  refine lv_istore (lv' := [(6, .int r2), (0, .ref b), (1, .ref (ad 0)), (2, .ref (ad' 135)), (3, .ref (ad 152)), (4, .ref (ad 153)), (5, .int x5)]) hx hb (dc tbL_law_13_k 29 rfl) hl (by decide) rfl (fun ls hl => ?_)
  refine lv_aload_n hx hb (dc tbL_law_13_k 30 rfl) rfl (lv_at hl 3 rfl) ?_
  refine lv_aload_n hx hb (dc tbL_law_13_k 31 rfl) rfl (lv_at hl 1 rfl) ?_
  refine lv_iload hx hb (dc tbL_law_13_k 32 rfl) (lv_at hl 6 rfl) ?_
  refine lv_iconst (v := 1) hx hb (dc tbL_law_13_k 33 rfl) ic_1 ?_
  refine lv_iadd hx hb (dc tbL_law_13_k 34 rfl) ?_
  refine l_sld hx hb hX hbl hbA hI hs.2.1.1 hs.2.1.2 (dc tbL_law_13_k 35 rfl) ?_
  obtain ⟨N6, r5, q4, hf⟩ := cal_s hf
  refine l_calli (g_runV hx hb hml hown hts hK hap2 hsx2 hJ (tX7_refused l hk2 q4 H.size) cv_X7_refused q_t9_60 rfl rfl ⟨Nat.le_of_ble_eq_true rfl, Nat.le_of_ble_eq_true rfl⟩ hk2.1 (by simp) rfl rfl rfl hl.1 rfl (Nat.le_of_ble_eq_true rfl) (dc tbL_law_13_k 36 rfl) ⟨by have := hc.1; show _ ≤ 601024; omega, by have := hc.2; show _ ≤ 7293034; omega⟩) hJ hI hA.symm hd2 (fun H locs hJ hI => ?_)
  refine lv_istore (lv' := [(7, .int r5), (6, .int r2), (0, .ref b), (1, .ref (ad 0)), (2, .ref (ad' 135)), (3, .ref (ad 152)), (4, .ref (ad 153)), (5, .int x5)]) hx hb (dc tbL_law_13_k 37 rfl) hl (by decide) rfl (fun ls hl => ?_)
  refine lv_goto (tgt := 1738) hx hb (dc tbL_law_13_k 38 rfl) rfl ?_
  obtain ⟨h7, hf⟩ := chk_s hf
  cases hf
  refine W.widen (k := cells + 64) (n := slots + 4096) (by omega) (by omega) ?_
  exact hk _ _ _ _ _ C (by rw [of_decide_eq_true h7]; exact hS) hI hJ (lv_sub hl [2, 3, 4, 5, 6, 7] rfl)
def mlc_32 (a1 a2 a3 a4 a5 : Int32) (M N : Mem) : Option (Mem × Mem) := cal (mX6_possible 0 M) (fun M3 r2 => cal (mX7_possible 135 N) (fun N6 r5 => chk (decide (rd M3 133 0 = rd M 133 0)) (some (M3, N6))))
set_option maxHeartbeats 4000000 in
set_option maxRecDepth 100000 in
theorem lc_32 (hc : cells + 64 ≤ 601024 ∧ slots + 4096 ≤ 7293034) {x5 a0 a1 a2 a3 a4 a5 : Int32} (hs : Sc xs L x5 a0 a1 a2 a3 a4 a5) {M N M' N' : Mem} (hf : mlc_32 a1 a2 a3 a4 a5 M N = some (M', N')) (hk : AtW p l e s m args below meth c L xs G kd' ad' b x5 M' N' Q (cells + 64) (slots + 4096) 1738) : AtW p l e s m args below meth c L xs G kd' ad' b x5 M N Q cells slots 1110 := by
  intro kd ad H locs ls C hS hI hJ hl
  obtain ⟨hx, hb, hml, hown, hts, hK, hap, hap2, hsx, hsx2, hnc, hst, hA, hd1, hd2, hX, hbl, hbA, hk0, hLo, hk1, hk3, hk2⟩ := id C
  unfold mlc_32 at hf
  refine lv_aload_n hx hb (dc tbL_law_13_k 39 rfl) rfl (lv_at hl 1 rfl) ?_
  obtain ⟨M3, r2, q1, hf⟩ := cal_s hf
  refine l_calli (g_runV hx hb hml hown hts hK hap hsx hI (tX6_possible l hk0 q1 H.size) cv_X6_possible q_t3_16 rfl rfl ⟨Nat.le_of_ble_eq_true rfl, Nat.le_of_ble_eq_true rfl⟩ hk0.1 (by simp) rfl rfl rfl hl.1 rfl (Nat.le_of_ble_eq_true rfl) (dc tbL_law_14_k 0 rfl) ⟨by have := hc.1; show _ ≤ 601024; omega, by have := hc.2; show _ ≤ 7293034; omega⟩) hI hJ hA hd1 (fun H locs hI hJ => ?_)
  refine lv_pop hx hb (dc tbL_law_14_k 1 rfl) rfl ?_
  refine lv_aload_n hx hb (dc tbL_law_14_k 2 rfl) rfl (lv_at hl 2 rfl) ?_
  obtain ⟨N6, r5, q4, hf⟩ := cal_s hf
  refine l_calli (g_runV hx hb hml hown hts hK hap2 hsx2 hJ (tX7_possible l hk2 q4 H.size) cv_X7_possible q_t9_65 rfl rfl ⟨Nat.le_of_ble_eq_true rfl, Nat.le_of_ble_eq_true rfl⟩ hk2.1 (by simp) rfl rfl rfl hl.1 rfl (Nat.le_of_ble_eq_true rfl) (dc tbL_law_14_k 3 rfl) ⟨by have := hc.1; show _ ≤ 601024; omega, by have := hc.2; show _ ≤ 7293034; omega⟩) hJ hI hA.symm hd2 (fun H locs hJ hI => ?_)
  refine lv_pop hx hb (dc tbL_law_14_k 4 rfl) rfl ?_
  refine lv_goto (tgt := 1738) hx hb (dc tbL_law_14_k 5 rfl) rfl ?_
  obtain ⟨h7, hf⟩ := chk_s hf
  cases hf
  refine W.widen (k := cells + 64) (n := slots + 4096) (by omega) (by omega) ?_
  exact hk _ _ _ _ _ C (by rw [of_decide_eq_true h7]; exact hS) hI hJ (lv_sub hl [0, 1, 2, 3, 4, 5] rfl)
def mlc_33 (a1 a2 a3 a4 a5 : Int32) (M N : Mem) : Option (Mem × Mem) := cal (mX6_stuck 0 M) (fun M3 r2 => cal (mX7_stuck 135 N) (fun N6 r5 => chk (decide (rd M3 133 0 = rd M 133 0)) (some (M3, N6))))
set_option maxHeartbeats 4000000 in
set_option maxRecDepth 100000 in
theorem lc_33 (hc : cells + 64 ≤ 601024 ∧ slots + 4096 ≤ 7293034) {x5 a0 a1 a2 a3 a4 a5 : Int32} (hs : Sc xs L x5 a0 a1 a2 a3 a4 a5) {M N M' N' : Mem} (hf : mlc_33 a1 a2 a3 a4 a5 M N = some (M', N')) (hk : AtW p l e s m args below meth c L xs G kd' ad' b x5 M' N' Q (cells + 64) (slots + 4096) 1738) : AtW p l e s m args below meth c L xs G kd' ad' b x5 M N Q cells slots 1123 := by
  intro kd ad H locs ls C hS hI hJ hl
  obtain ⟨hx, hb, hml, hown, hts, hK, hap, hap2, hsx, hsx2, hnc, hst, hA, hd1, hd2, hX, hbl, hbA, hk0, hLo, hk1, hk3, hk2⟩ := id C
  unfold mlc_33 at hf
  refine lv_aload_n hx hb (dc tbL_law_14_k 6 rfl) rfl (lv_at hl 1 rfl) ?_
  obtain ⟨M3, r2, q1, hf⟩ := cal_s hf
  refine l_calli (g_runV hx hb hml hown hts hK hap hsx hI (tX6_stuck l hk0 q1 H.size) cv_X6_stuck q_t3_51 rfl rfl ⟨Nat.le_of_ble_eq_true rfl, Nat.le_of_ble_eq_true rfl⟩ hk0.1 (by simp) rfl rfl rfl hl.1 rfl (Nat.le_of_ble_eq_true rfl) (dc tbL_law_14_k 7 rfl) ⟨by have := hc.1; show _ ≤ 601024; omega, by have := hc.2; show _ ≤ 7293034; omega⟩) hI hJ hA hd1 (fun H locs hI hJ => ?_)
  refine lv_pop hx hb (dc tbL_law_14_k 8 rfl) rfl ?_
  refine lv_aload_n hx hb (dc tbL_law_14_k 9 rfl) rfl (lv_at hl 2 rfl) ?_
  obtain ⟨N6, r5, q4, hf⟩ := cal_s hf
  refine l_calli (g_runV hx hb hml hown hts hK hap2 hsx2 hJ (tX7_stuck l hk2 q4 H.size) cv_X7_stuck q_t9_69 rfl rfl ⟨Nat.le_of_ble_eq_true rfl, Nat.le_of_ble_eq_true rfl⟩ hk2.1 (by simp) rfl rfl rfl hl.1 rfl (Nat.le_of_ble_eq_true rfl) (dc tbL_law_14_k 10 rfl) ⟨by have := hc.1; show _ ≤ 601024; omega, by have := hc.2; show _ ≤ 7293034; omega⟩) hJ hI hA.symm hd2 (fun H locs hJ hI => ?_)
  refine lv_pop hx hb (dc tbL_law_14_k 11 rfl) rfl ?_
  refine lv_goto (tgt := 1738) hx hb (dc tbL_law_14_k 12 rfl) rfl ?_
  obtain ⟨h7, hf⟩ := chk_s hf
  cases hf
  refine W.widen (k := cells + 64) (n := slots + 4096) (by omega) (by omega) ?_
  exact hk _ _ _ _ _ C (by rw [of_decide_eq_true h7]; exact hS) hI hJ (lv_sub hl [0, 1, 2, 3, 4, 5] rfl)
def mlc_34 (a1 a2 a3 a4 a5 : Int32) (M N : Mem) : Option (Mem × Mem) := calh (mL_costOf 0 152 a1 a2 M) (fun M3 r2 => cal (mX7_costOf 135 a1 a2 N) (fun N6 r5 => chk (decide (rd M3 133 0 = rd M 133 0)) (some (M3, N6))))
set_option maxHeartbeats 4000000 in
set_option maxRecDepth 100000 in
theorem lc_34 (hc : cells + 64 ≤ 601024 ∧ slots + 4096 ≤ 7293034) {x5 a0 a1 a2 a3 a4 a5 : Int32} (hs : Sc xs L x5 a0 a1 a2 a3 a4 a5) {M N M' N' : Mem} (hf : mlc_34 a1 a2 a3 a4 a5 M N = some (M', N')) (hk : AtW p l e s m args below meth c L xs G kd' ad' b x5 M' N' Q (cells + 64) (slots + 4096) 1738) : AtW p l e s m args below meth c L xs G kd' ad' b x5 M N Q cells slots 1136 := by
  intro kd ad H locs ls C hS hI hJ hl
  obtain ⟨hx, hb, hml, hown, hts, hK, hap, hap2, hsx, hsx2, hnc, hst, hA, hd1, hd2, hX, hbl, hbA, hk0, hLo, hk1, hk3, hk2⟩ := id C
  unfold mlc_34 at hf
  refine lv_aload_n hx hb (dc tbL_law_14_k 13 rfl) rfl (lv_at hl 1 rfl) ?_
  refine lv_aload_n hx hb (dc tbL_law_14_k 14 rfl) rfl (lv_at hl 0 rfl) ?_
  refine lv_iload hx hb (dc tbL_law_14_k 15 rfl) (lv_at hl 5 rfl) ?_
  refine lv_iconst (v := 1) hx hb (dc tbL_law_14_k 16 rfl) ic_1 ?_
  refine lv_iadd hx hb (dc tbL_law_14_k 17 rfl) ?_
  refine l_sld hx hb hX hbl hbA hI hs.2.1.1 hs.2.1.2 (dc tbL_law_14_k 18 rfl) ?_
  refine lv_aload_n hx hb (dc tbL_law_14_k 19 rfl) rfl (lv_at hl 0 rfl) ?_
  refine lv_iload hx hb (dc tbL_law_14_k 20 rfl) (lv_at hl 5 rfl) ?_
  refine lv_iconst (v := 2) hx hb (dc tbL_law_14_k 21 rfl) ic_2 ?_
  refine lv_iadd hx hb (dc tbL_law_14_k 22 rfl) ?_
  refine l_sld hx hb hX hbl hbA hI hs.2.2.1.1 hs.2.2.1.2 (dc tbL_law_14_k 23 rfl) ?_
  refine lv_aload_n hx hb (dc tbL_law_14_k 24 rfl) rfl (lv_at hl 3 rfl) ?_
  obtain ⟨M3, r2, q1, hf⟩ := calh_s hf
  refine l_callH (g_runH hx hb hml hown hts hK hap hsx hnc hI (tL_costOf l hst hk0 hk1 q1 H.size) ch_L_costOf q_t6_153 rfl rfl ⟨Nat.le_of_ble_eq_true rfl, Nat.le_of_ble_eq_true rfl⟩ rfl hl.1 rfl (Nat.le_of_ble_eq_true rfl) (dc tbL_law_14_k 25 rfl) ⟨by have := hc.1; show _ ≤ 601024; omega, by have := hc.2; show _ ≤ 7293034; omega⟩) hI hJ hA hd1 (fun H locs hI hJ => ?_)
  refine lv_istore (lv' := [(6, .int r2), (0, .ref b), (1, .ref (ad 0)), (2, .ref (ad' 135)), (3, .ref (ad 152)), (4, .ref (ad 153)), (5, .int x5)]) hx hb (dc tbL_law_14_k 26 rfl) hl (by decide) rfl (fun ls hl => ?_)
  refine lv_aload_n hx hb (dc tbL_law_14_k 27 rfl) rfl (lv_at hl 3 rfl) ?_
  refine lv_aload_n hx hb (dc tbL_law_14_k 28 rfl) rfl (lv_at hl 1 rfl) ?_
  refine lv_iload hx hb (dc tbL_law_14_k 29 rfl) (lv_at hl 6 rfl) ?_
  refine lv_iconst (v := 1) hx hb (dc tbL_law_14_k 30 rfl) ic_1 ?_
  refine lv_iadd hx hb (dc tbL_law_14_k 31 rfl) ?_
  refine l_sld hx hb hX hbl hbA hI hs.2.1.1 hs.2.1.2 (dc tbL_law_14_k 32 rfl) ?_
  refine lv_aload_n hx hb (dc tbL_law_14_k 33 rfl) rfl (lv_at hl 1 rfl) ?_
  refine lv_iload hx hb (dc tbL_law_14_k 34 rfl) (lv_at hl 6 rfl) ?_
  refine lv_iconst (v := 2) hx hb (dc tbL_law_14_k 35 rfl) ic_2 ?_
  refine lv_iadd hx hb (dc tbL_law_14_k 36 rfl) ?_
  refine l_sld hx hb hX hbl hbA hI hs.2.2.1.1 hs.2.2.1.2 (dc tbL_law_14_k 37 rfl) ?_
  obtain ⟨N6, r5, q4, hf⟩ := cal_s hf
  refine l_calli (g_runV hx hb hml hown hts hK hap2 hsx2 hJ (tX7_costOf l hk2 q4 H.size) cv_X7_costOf q_t9_73 rfl rfl ⟨Nat.le_of_ble_eq_true rfl, Nat.le_of_ble_eq_true rfl⟩ hk2.1 (by simp) rfl rfl rfl hl.1 rfl (Nat.le_of_ble_eq_true rfl) (dc tbL_law_14_k 38 rfl) ⟨by have := hc.1; show _ ≤ 601024; omega, by have := hc.2; show _ ≤ 7293034; omega⟩) hJ hI hA.symm hd2 (fun H locs hJ hI => ?_)
  refine lv_istore (lv' := [(7, .int r5), (6, .int r2), (0, .ref b), (1, .ref (ad 0)), (2, .ref (ad' 135)), (3, .ref (ad 152)), (4, .ref (ad 153)), (5, .int x5)]) hx hb (dc tbL_law_14_k 39 rfl) hl (by decide) rfl (fun ls hl => ?_)
  refine lv_goto (tgt := 1738) hx hb (dc tbL_law_15_k 0 rfl) rfl ?_
  obtain ⟨h7, hf⟩ := chk_s hf
  cases hf
  refine W.widen (k := cells + 64) (n := slots + 4096) (by omega) (by omega) ?_
  exact hk _ _ _ _ _ C (by rw [of_decide_eq_true h7]; exact hS) hI hJ (lv_sub hl [2, 3, 4, 5, 6, 7] rfl)
def mlc_35 (a1 a2 a3 a4 a5 : Int32) (M N : Mem) : Option (Mem × Mem) := cal (mX6_orders 0 M) (fun M3 r2 => cal (mX7_orders 135 N) (fun N6 r5 => chk (decide (rd M3 133 0 = rd M 133 0)) (some (M3, N6))))
set_option maxHeartbeats 4000000 in
set_option maxRecDepth 100000 in
theorem lc_35 (hc : cells + 64 ≤ 601024 ∧ slots + 4096 ≤ 7293034) {x5 a0 a1 a2 a3 a4 a5 : Int32} (hs : Sc xs L x5 a0 a1 a2 a3 a4 a5) {M N M' N' : Mem} (hf : mlc_35 a1 a2 a3 a4 a5 M N = some (M', N')) (hk : AtW p l e s m args below meth c L xs G kd' ad' b x5 M' N' Q (cells + 64) (slots + 4096) 1738) : AtW p l e s m args below meth c L xs G kd' ad' b x5 M N Q cells slots 1176 := by
  intro kd ad H locs ls C hS hI hJ hl
  obtain ⟨hx, hb, hml, hown, hts, hK, hap, hap2, hsx, hsx2, hnc, hst, hA, hd1, hd2, hX, hbl, hbA, hk0, hLo, hk1, hk3, hk2⟩ := id C
  unfold mlc_35 at hf
  refine lv_aload_n hx hb (dc tbL_law_15_k 1 rfl) rfl (lv_at hl 1 rfl) ?_
  obtain ⟨M3, r2, q1, hf⟩ := cal_s hf
  refine l_calll (g_runV hx hb hml hown hts hK hap hsx hI (tX6_orders l hk0 q1 H.size) cv_X6_orders q_t3_55 rfl rfl ⟨Nat.le_of_ble_eq_true rfl, Nat.le_of_ble_eq_true rfl⟩ hk0.1 (by simp) rfl rfl rfl hl.1 rfl (Nat.le_of_ble_eq_true rfl) (dc tbL_law_15_k 2 rfl) ⟨by have := hc.1; show _ ≤ 601024; omega, by have := hc.2; show _ ≤ 7293034; omega⟩) hI hJ hA hd1 (fun H locs hI hJ => ?_)
  refine lv_pop2_2 hx hb (dc tbL_law_15_k 3 rfl) rfl ?_
  refine lv_aload_n hx hb (dc tbL_law_15_k 4 rfl) rfl (lv_at hl 2 rfl) ?_
  obtain ⟨N6, r5, q4, hf⟩ := cal_s hf
  refine l_calll (g_runV hx hb hml hown hts hK hap2 hsx2 hJ (tX7_orders l hk2 q4 H.size) cv_X7_orders q_t9_85 rfl rfl ⟨Nat.le_of_ble_eq_true rfl, Nat.le_of_ble_eq_true rfl⟩ hk2.1 (by simp) rfl rfl rfl hl.1 rfl (Nat.le_of_ble_eq_true rfl) (dc tbL_law_15_k 5 rfl) ⟨by have := hc.1; show _ ≤ 601024; omega, by have := hc.2; show _ ≤ 7293034; omega⟩) hJ hI hA.symm hd2 (fun H locs hJ hI => ?_)
  refine lv_pop2_2 hx hb (dc tbL_law_15_k 6 rfl) rfl ?_
  refine lv_goto (tgt := 1738) hx hb (dc tbL_law_15_k 7 rfl) rfl ?_
  obtain ⟨h7, hf⟩ := chk_s hf
  cases hf
  refine W.widen (k := cells + 64) (n := slots + 4096) (by omega) (by omega) ?_
  exact hk _ _ _ _ _ C (by rw [of_decide_eq_true h7]; exact hS) hI hJ (lv_sub hl [0, 1, 2, 3, 4, 5] rfl)
def mlc_36 (a1 a2 a3 a4 a5 : Int32) (M N : Mem) : Option (Mem × Mem) := cal (mX6_leastCost 0 M) (fun M3 r2 => cal (mX7_leastCost 135 N) (fun N6 r5 => chk (decide (rd M3 133 0 = rd M 133 0)) (some (M3, N6))))
set_option maxHeartbeats 4000000 in
set_option maxRecDepth 100000 in
theorem lc_36 (hc : cells + 64 ≤ 601024 ∧ slots + 4096 ≤ 7293034) {x5 a0 a1 a2 a3 a4 a5 : Int32} (hs : Sc xs L x5 a0 a1 a2 a3 a4 a5) {M N M' N' : Mem} (hf : mlc_36 a1 a2 a3 a4 a5 M N = some (M', N')) (hk : AtW p l e s m args below meth c L xs G kd' ad' b x5 M' N' Q (cells + 64) (slots + 4096) 1738) : AtW p l e s m args below meth c L xs G kd' ad' b x5 M N Q cells slots 1189 := by
  intro kd ad H locs ls C hS hI hJ hl
  obtain ⟨hx, hb, hml, hown, hts, hK, hap, hap2, hsx, hsx2, hnc, hst, hA, hd1, hd2, hX, hbl, hbA, hk0, hLo, hk1, hk3, hk2⟩ := id C
  unfold mlc_36 at hf
  refine lv_aload_n hx hb (dc tbL_law_15_k 8 rfl) rfl (lv_at hl 1 rfl) ?_
  obtain ⟨M3, r2, q1, hf⟩ := cal_s hf
  refine l_calli (g_runV hx hb hml hown hts hK hap hsx hI (tX6_leastCost l hk0 q1 H.size) cv_X6_leastCost q_t3_143 rfl rfl ⟨Nat.le_of_ble_eq_true rfl, Nat.le_of_ble_eq_true rfl⟩ hk0.1 (by simp) rfl rfl rfl hl.1 rfl (Nat.le_of_ble_eq_true rfl) (dc tbL_law_15_k 9 rfl) ⟨by have := hc.1; show _ ≤ 601024; omega, by have := hc.2; show _ ≤ 7293034; omega⟩) hI hJ hA hd1 (fun H locs hI hJ => ?_)
  refine lv_pop hx hb (dc tbL_law_15_k 10 rfl) rfl ?_
  refine lv_aload_n hx hb (dc tbL_law_15_k 11 rfl) rfl (lv_at hl 2 rfl) ?_
  obtain ⟨N6, r5, q4, hf⟩ := cal_s hf
  refine l_calli (g_runV hx hb hml hown hts hK hap2 hsx2 hJ (tX7_leastCost l hk2 q4 H.size) cv_X7_leastCost q_t9_101 rfl rfl ⟨Nat.le_of_ble_eq_true rfl, Nat.le_of_ble_eq_true rfl⟩ hk2.1 (by simp) rfl rfl rfl hl.1 rfl (Nat.le_of_ble_eq_true rfl) (dc tbL_law_15_k 12 rfl) ⟨by have := hc.1; show _ ≤ 601024; omega, by have := hc.2; show _ ≤ 7293034; omega⟩) hJ hI hA.symm hd2 (fun H locs hJ hI => ?_)
  refine lv_pop hx hb (dc tbL_law_15_k 13 rfl) rfl ?_
  refine lv_goto (tgt := 1738) hx hb (dc tbL_law_15_k 14 rfl) rfl ?_
  obtain ⟨h7, hf⟩ := chk_s hf
  cases hf
  refine W.widen (k := cells + 64) (n := slots + 4096) (by omega) (by omega) ?_
  exact hk _ _ _ _ _ C (by rw [of_decide_eq_true h7]; exact hS) hI hJ (lv_sub hl [0, 1, 2, 3, 4, 5] rfl)
def mlc_37 (a1 a2 a3 a4 a5 : Int32) (M N : Mem) : Option (Mem × Mem) := cal (mX6_plannedSteps 0 M) (fun M3 r2 => cal (mX7_plannedSteps 135 N) (fun N6 r5 => chk (decide (rd M3 133 0 = rd M 133 0)) (some (M3, N6))))
set_option maxHeartbeats 4000000 in
set_option maxRecDepth 100000 in
theorem lc_37 (hc : cells + 64 ≤ 601024 ∧ slots + 4096 ≤ 7293034) {x5 a0 a1 a2 a3 a4 a5 : Int32} (hs : Sc xs L x5 a0 a1 a2 a3 a4 a5) {M N M' N' : Mem} (hf : mlc_37 a1 a2 a3 a4 a5 M N = some (M', N')) (hk : AtW p l e s m args below meth c L xs G kd' ad' b x5 M' N' Q (cells + 64) (slots + 4096) 1738) : AtW p l e s m args below meth c L xs G kd' ad' b x5 M N Q cells slots 1202 := by
  intro kd ad H locs ls C hS hI hJ hl
  obtain ⟨hx, hb, hml, hown, hts, hK, hap, hap2, hsx, hsx2, hnc, hst, hA, hd1, hd2, hX, hbl, hbA, hk0, hLo, hk1, hk3, hk2⟩ := id C
  unfold mlc_37 at hf
  refine lv_aload_n hx hb (dc tbL_law_15_k 15 rfl) rfl (lv_at hl 1 rfl) ?_
  obtain ⟨M3, r2, q1, hf⟩ := cal_s hf
  refine l_calli (g_runV hx hb hml hown hts hK hap hsx hI (tX6_plannedSteps l hk0 q1 H.size) cv_X6_plannedSteps q_t3_147 rfl rfl ⟨Nat.le_of_ble_eq_true rfl, Nat.le_of_ble_eq_true rfl⟩ hk0.1 (by simp) rfl rfl rfl hl.1 rfl (Nat.le_of_ble_eq_true rfl) (dc tbL_law_15_k 16 rfl) ⟨by have := hc.1; show _ ≤ 601024; omega, by have := hc.2; show _ ≤ 7293034; omega⟩) hI hJ hA hd1 (fun H locs hI hJ => ?_)
  refine lv_pop hx hb (dc tbL_law_15_k 17 rfl) rfl ?_
  refine lv_aload_n hx hb (dc tbL_law_15_k 18 rfl) rfl (lv_at hl 2 rfl) ?_
  obtain ⟨N6, r5, q4, hf⟩ := cal_s hf
  refine l_calli (g_runV hx hb hml hown hts hK hap2 hsx2 hJ (tX7_plannedSteps l hk2 q4 H.size) cv_X7_plannedSteps q_t9_131 rfl rfl ⟨Nat.le_of_ble_eq_true rfl, Nat.le_of_ble_eq_true rfl⟩ hk2.1 (by simp) rfl rfl rfl hl.1 rfl (Nat.le_of_ble_eq_true rfl) (dc tbL_law_15_k 19 rfl) ⟨by have := hc.1; show _ ≤ 601024; omega, by have := hc.2; show _ ≤ 7293034; omega⟩) hJ hI hA.symm hd2 (fun H locs hJ hI => ?_)
  refine lv_pop hx hb (dc tbL_law_15_k 20 rfl) rfl ?_
  refine lv_goto (tgt := 1738) hx hb (dc tbL_law_15_k 21 rfl) rfl ?_
  obtain ⟨h7, hf⟩ := chk_s hf
  cases hf
  refine W.widen (k := cells + 64) (n := slots + 4096) (by omega) (by omega) ?_
  exact hk _ _ _ _ _ C (by rw [of_decide_eq_true h7]; exact hS) hI hJ (lv_sub hl [0, 1, 2, 3, 4, 5] rfl)
def mlc_38 (a1 a2 a3 a4 a5 : Int32) (M N : Mem) : Option (Mem × Mem) := calh (mL_planned 0 152 a1 M) (fun M3 r2 => cal (mX7_planned 135 a1 N) (fun N6 r5 => chk (decide (rd M3 133 0 = rd M 133 0)) (some (M3, N6))))
set_option maxHeartbeats 4000000 in
set_option maxRecDepth 100000 in
theorem lc_38 (hc : cells + 64 ≤ 601024 ∧ slots + 4096 ≤ 7293034) {x5 a0 a1 a2 a3 a4 a5 : Int32} (hs : Sc xs L x5 a0 a1 a2 a3 a4 a5) {M N M' N' : Mem} (hf : mlc_38 a1 a2 a3 a4 a5 M N = some (M', N')) (hk : AtW p l e s m args below meth c L xs G kd' ad' b x5 M' N' Q (cells + 64) (slots + 4096) 1738) : AtW p l e s m args below meth c L xs G kd' ad' b x5 M N Q cells slots 1215 := by
  intro kd ad H locs ls C hS hI hJ hl
  obtain ⟨hx, hb, hml, hown, hts, hK, hap, hap2, hsx, hsx2, hnc, hst, hA, hd1, hd2, hX, hbl, hbA, hk0, hLo, hk1, hk3, hk2⟩ := id C
  unfold mlc_38 at hf
  refine lv_aload_n hx hb (dc tbL_law_15_k 22 rfl) rfl (lv_at hl 1 rfl) ?_
  refine lv_aload_n hx hb (dc tbL_law_15_k 23 rfl) rfl (lv_at hl 0 rfl) ?_
  refine lv_iload hx hb (dc tbL_law_15_k 24 rfl) (lv_at hl 5 rfl) ?_
  refine lv_iconst (v := 1) hx hb (dc tbL_law_15_k 25 rfl) ic_1 ?_
  refine lv_iadd hx hb (dc tbL_law_15_k 26 rfl) ?_
  refine l_sld hx hb hX hbl hbA hI hs.2.1.1 hs.2.1.2 (dc tbL_law_15_k 27 rfl) ?_
  refine lv_aload_n hx hb (dc tbL_law_15_k 28 rfl) rfl (lv_at hl 3 rfl) ?_
  obtain ⟨M3, r2, q1, hf⟩ := calh_s hf
  refine l_callH (g_runH hx hb hml hown hts hK hap hsx hnc hI (tL_planned l hst hk0 hk1 q1 H.size) ch_L_planned q_t6_167 rfl rfl ⟨Nat.le_of_ble_eq_true rfl, Nat.le_of_ble_eq_true rfl⟩ rfl hl.1 rfl (Nat.le_of_ble_eq_true rfl) (dc tbL_law_15_k 29 rfl) ⟨by have := hc.1; show _ ≤ 601024; omega, by have := hc.2; show _ ≤ 7293034; omega⟩) hI hJ hA hd1 (fun H locs hI hJ => ?_)
  refine lv_istore (lv' := [(6, .int r2), (0, .ref b), (1, .ref (ad 0)), (2, .ref (ad' 135)), (3, .ref (ad 152)), (4, .ref (ad 153)), (5, .int x5)]) hx hb (dc tbL_law_15_k 30 rfl) hl (by decide) rfl (fun ls hl => ?_)
  refine lv_aload_n hx hb (dc tbL_law_15_k 31 rfl) rfl (lv_at hl 3 rfl) ?_
  refine lv_aload_n hx hb (dc tbL_law_15_k 32 rfl) rfl (lv_at hl 1 rfl) ?_
  refine lv_iload hx hb (dc tbL_law_15_k 33 rfl) (lv_at hl 6 rfl) ?_
  refine lv_iconst (v := 1) hx hb (dc tbL_law_15_k 34 rfl) ic_1 ?_
  refine lv_iadd hx hb (dc tbL_law_15_k 35 rfl) ?_
  refine l_sld hx hb hX hbl hbA hI hs.2.1.1 hs.2.1.2 (dc tbL_law_15_k 36 rfl) ?_
  obtain ⟨N6, r5, q4, hf⟩ := cal_s hf
  refine l_calli (g_runV hx hb hml hown hts hK hap2 hsx2 hJ (tX7_planned l hk2 q4 H.size) cv_X7_planned q_t9_139 rfl rfl ⟨Nat.le_of_ble_eq_true rfl, Nat.le_of_ble_eq_true rfl⟩ hk2.1 (by simp) rfl rfl rfl hl.1 rfl (Nat.le_of_ble_eq_true rfl) (dc tbL_law_15_k 37 rfl) ⟨by have := hc.1; show _ ≤ 601024; omega, by have := hc.2; show _ ≤ 7293034; omega⟩) hJ hI hA.symm hd2 (fun H locs hJ hI => ?_)
  refine lv_istore (lv' := [(7, .int r5), (6, .int r2), (0, .ref b), (1, .ref (ad 0)), (2, .ref (ad' 135)), (3, .ref (ad 152)), (4, .ref (ad 153)), (5, .int x5)]) hx hb (dc tbL_law_15_k 38 rfl) hl (by decide) rfl (fun ls hl => ?_)
  refine lv_goto (tgt := 1738) hx hb (dc tbL_law_15_k 39 rfl) rfl ?_
  obtain ⟨h7, hf⟩ := chk_s hf
  cases hf
  refine W.widen (k := cells + 64) (n := slots + 4096) (by omega) (by omega) ?_
  exact hk _ _ _ _ _ C (by rw [of_decide_eq_true h7]; exact hS) hI hJ (lv_sub hl [2, 3, 4, 5, 6, 7] rfl)
def mlc_39 (a1 a2 a3 a4 a5 : Int32) (M N : Mem) : Option (Mem × Mem) := cal (mX6_greatestCost 0 M) (fun M3 r2 => cal (mX7_greatestCost 135 N) (fun N6 r5 => chk (decide (rd M3 133 0 = rd M 133 0)) (some (M3, N6))))
set_option maxHeartbeats 4000000 in
set_option maxRecDepth 100000 in
theorem lc_39 (hc : cells + 64 ≤ 601024 ∧ slots + 4096 ≤ 7293034) {x5 a0 a1 a2 a3 a4 a5 : Int32} (hs : Sc xs L x5 a0 a1 a2 a3 a4 a5) {M N M' N' : Mem} (hf : mlc_39 a1 a2 a3 a4 a5 M N = some (M', N')) (hk : AtW p l e s m args below meth c L xs G kd' ad' b x5 M' N' Q (cells + 64) (slots + 4096) 1738) : AtW p l e s m args below meth c L xs G kd' ad' b x5 M N Q cells slots 1243 := by
  intro kd ad H locs ls C hS hI hJ hl
  obtain ⟨hx, hb, hml, hown, hts, hK, hap, hap2, hsx, hsx2, hnc, hst, hA, hd1, hd2, hX, hbl, hbA, hk0, hLo, hk1, hk3, hk2⟩ := id C
  unfold mlc_39 at hf
  refine lv_aload_n hx hb (dc tbL_law_16_k 0 rfl) rfl (lv_at hl 1 rfl) ?_
  obtain ⟨M3, r2, q1, hf⟩ := cal_s hf
  refine l_calli (g_runV hx hb hml hown hts hK hap hsx hI (tX6_greatestCost l hk0 q1 H.size) cv_X6_greatestCost q_t3_151 rfl rfl ⟨Nat.le_of_ble_eq_true rfl, Nat.le_of_ble_eq_true rfl⟩ hk0.1 (by simp) rfl rfl rfl hl.1 rfl (Nat.le_of_ble_eq_true rfl) (dc tbL_law_16_k 1 rfl) ⟨by have := hc.1; show _ ≤ 601024; omega, by have := hc.2; show _ ≤ 7293034; omega⟩) hI hJ hA hd1 (fun H locs hI hJ => ?_)
  refine lv_pop hx hb (dc tbL_law_16_k 2 rfl) rfl ?_
  refine lv_aload_n hx hb (dc tbL_law_16_k 3 rfl) rfl (lv_at hl 2 rfl) ?_
  obtain ⟨N6, r5, q4, hf⟩ := cal_s hf
  refine l_calli (g_runV hx hb hml hown hts hK hap2 hsx2 hJ (tX7_greatestCost l hk2 q4 H.size) cv_X7_greatestCost q_t9_147 rfl rfl ⟨Nat.le_of_ble_eq_true rfl, Nat.le_of_ble_eq_true rfl⟩ hk2.1 (by simp) rfl rfl rfl hl.1 rfl (Nat.le_of_ble_eq_true rfl) (dc tbL_law_16_k 4 rfl) ⟨by have := hc.1; show _ ≤ 601024; omega, by have := hc.2; show _ ≤ 7293034; omega⟩) hJ hI hA.symm hd2 (fun H locs hJ hI => ?_)
  refine lv_pop hx hb (dc tbL_law_16_k 5 rfl) rfl ?_
  refine lv_goto (tgt := 1738) hx hb (dc tbL_law_16_k 6 rfl) rfl ?_
  obtain ⟨h7, hf⟩ := chk_s hf
  cases hf
  refine W.widen (k := cells + 64) (n := slots + 4096) (by omega) (by omega) ?_
  exact hk _ _ _ _ _ C (by rw [of_decide_eq_true h7]; exact hS) hI hJ (lv_sub hl [0, 1, 2, 3, 4, 5] rfl)
def mlc_40 (a1 a2 a3 a4 a5 : Int32) (M N : Mem) : Option (Mem × Mem) := calh (mL_ordersWith 0 152 a1 a2 M) (fun M3 r2 => cal (mX7_ordersWith 135 a1 a2 N) (fun N6 r5 => chk (decide (rd M3 133 0 = rd M 133 0)) (some (M3, N6))))
set_option maxHeartbeats 4000000 in
set_option maxRecDepth 100000 in
theorem lc_40 (hc : cells + 64 ≤ 601024 ∧ slots + 4096 ≤ 7293034) {x5 a0 a1 a2 a3 a4 a5 : Int32} (hs : Sc xs L x5 a0 a1 a2 a3 a4 a5) {M N M' N' : Mem} (hf : mlc_40 a1 a2 a3 a4 a5 M N = some (M', N')) (hk : AtW p l e s m args below meth c L xs G kd' ad' b x5 M' N' Q (cells + 64) (slots + 4096) 1738) : AtW p l e s m args below meth c L xs G kd' ad' b x5 M N Q cells slots 1256 := by
  intro kd ad H locs ls C hS hI hJ hl
  obtain ⟨hx, hb, hml, hown, hts, hK, hap, hap2, hsx, hsx2, hnc, hst, hA, hd1, hd2, hX, hbl, hbA, hk0, hLo, hk1, hk3, hk2⟩ := id C
  unfold mlc_40 at hf
  refine lv_aload_n hx hb (dc tbL_law_16_k 7 rfl) rfl (lv_at hl 1 rfl) ?_
  refine lv_aload_n hx hb (dc tbL_law_16_k 8 rfl) rfl (lv_at hl 0 rfl) ?_
  refine lv_iload hx hb (dc tbL_law_16_k 9 rfl) (lv_at hl 5 rfl) ?_
  refine lv_iconst (v := 1) hx hb (dc tbL_law_16_k 10 rfl) ic_1 ?_
  refine lv_iadd hx hb (dc tbL_law_16_k 11 rfl) ?_
  refine l_sld hx hb hX hbl hbA hI hs.2.1.1 hs.2.1.2 (dc tbL_law_16_k 12 rfl) ?_
  refine lv_aload_n hx hb (dc tbL_law_16_k 13 rfl) rfl (lv_at hl 0 rfl) ?_
  refine lv_iload hx hb (dc tbL_law_16_k 14 rfl) (lv_at hl 5 rfl) ?_
  refine lv_iconst (v := 2) hx hb (dc tbL_law_16_k 15 rfl) ic_2 ?_
  refine lv_iadd hx hb (dc tbL_law_16_k 16 rfl) ?_
  refine l_sld hx hb hX hbl hbA hI hs.2.2.1.1 hs.2.2.1.2 (dc tbL_law_16_k 17 rfl) ?_
  refine lv_aload_n hx hb (dc tbL_law_16_k 18 rfl) rfl (lv_at hl 3 rfl) ?_
  obtain ⟨M3, r2, q1, hf⟩ := calh_s hf
  refine l_callH (g_runH hx hb hml hown hts hK hap hsx hnc hI (tL_ordersWith l hst hk0 hk1 q1 H.size) ch_L_ordersWith q_t6_175 rfl rfl ⟨Nat.le_of_ble_eq_true rfl, Nat.le_of_ble_eq_true rfl⟩ rfl hl.1 rfl (Nat.le_of_ble_eq_true rfl) (dc tbL_law_16_k 19 rfl) ⟨by have := hc.1; show _ ≤ 601024; omega, by have := hc.2; show _ ≤ 7293034; omega⟩) hI hJ hA hd1 (fun H locs hI hJ => ?_)
  refine lv_istore (lv' := [(6, .int r2), (0, .ref b), (1, .ref (ad 0)), (2, .ref (ad' 135)), (3, .ref (ad 152)), (4, .ref (ad 153)), (5, .int x5)]) hx hb (dc tbL_law_16_k 20 rfl) hl (by decide) rfl (fun ls hl => ?_)
  refine lv_aload_n hx hb (dc tbL_law_16_k 21 rfl) rfl (lv_at hl 3 rfl) ?_
  refine lv_aload_n hx hb (dc tbL_law_16_k 22 rfl) rfl (lv_at hl 1 rfl) ?_
  refine lv_iload hx hb (dc tbL_law_16_k 23 rfl) (lv_at hl 6 rfl) ?_
  refine lv_iconst (v := 1) hx hb (dc tbL_law_16_k 24 rfl) ic_1 ?_
  refine lv_iadd hx hb (dc tbL_law_16_k 25 rfl) ?_
  refine l_sld hx hb hX hbl hbA hI hs.2.1.1 hs.2.1.2 (dc tbL_law_16_k 26 rfl) ?_
  refine lv_aload_n hx hb (dc tbL_law_16_k 27 rfl) rfl (lv_at hl 1 rfl) ?_
  refine lv_iload hx hb (dc tbL_law_16_k 28 rfl) (lv_at hl 6 rfl) ?_
  refine lv_iconst (v := 2) hx hb (dc tbL_law_16_k 29 rfl) ic_2 ?_
  refine lv_iadd hx hb (dc tbL_law_16_k 30 rfl) ?_
  refine l_sld hx hb hX hbl hbA hI hs.2.2.1.1 hs.2.2.1.2 (dc tbL_law_16_k 31 rfl) ?_
  obtain ⟨N6, r5, q4, hf⟩ := cal_s hf
  refine l_calll (g_runV hx hb hml hown hts hK hap2 hsx2 hJ (tX7_ordersWith l hk2 q4 H.size) cv_X7_ordersWith q_t9_151 rfl rfl ⟨Nat.le_of_ble_eq_true rfl, Nat.le_of_ble_eq_true rfl⟩ hk2.1 (by simp) rfl rfl rfl hl.1 rfl (Nat.le_of_ble_eq_true rfl) (dc tbL_law_16_k 32 rfl) ⟨by have := hc.1; show _ ≤ 601024; omega, by have := hc.2; show _ ≤ 7293034; omega⟩) hJ hI hA.symm hd2 (fun H locs hJ hI => ?_)
  refine lv_lstore (lv' := [(7, .long r5), (6, .int r2), (0, .ref b), (1, .ref (ad 0)), (2, .ref (ad' 135)), (3, .ref (ad 152)), (4, .ref (ad 153)), (5, .int x5)]) hx hb (dc tbL_law_16_k 33 rfl) hl (by decide) rfl (fun ls hl => ?_)
  refine lv_goto (tgt := 1738) hx hb (dc tbL_law_16_k 34 rfl) rfl ?_
  obtain ⟨h7, hf⟩ := chk_s hf
  cases hf
  refine W.widen (k := cells + 64) (n := slots + 4096) (by omega) (by omega) ?_
  exact hk _ _ _ _ _ C (by rw [of_decide_eq_true h7]; exact hS) hI hJ (lv_sub hl [2, 3, 4, 5, 6, 7] rfl)
def mlc_41 (a1 a2 a3 a4 a5 : Int32) (M N : Mem) : Option (Mem × Mem) := cal (mX6_lastSteps 0 M) (fun M3 r2 => cal (mX7_lastSteps 135 N) (fun N6 r5 => chk (decide (rd M3 133 0 = rd M 133 0)) (some (M3, N6))))
set_option maxHeartbeats 4000000 in
set_option maxRecDepth 100000 in
theorem lc_41 (hc : cells + 64 ≤ 601024 ∧ slots + 4096 ≤ 7293034) {x5 a0 a1 a2 a3 a4 a5 : Int32} (hs : Sc xs L x5 a0 a1 a2 a3 a4 a5) {M N M' N' : Mem} (hf : mlc_41 a1 a2 a3 a4 a5 M N = some (M', N')) (hk : AtW p l e s m args below meth c L xs G kd' ad' b x5 M' N' Q (cells + 64) (slots + 4096) 1738) : AtW p l e s m args below meth c L xs G kd' ad' b x5 M N Q cells slots 1296 := by
  intro kd ad H locs ls C hS hI hJ hl
  obtain ⟨hx, hb, hml, hown, hts, hK, hap, hap2, hsx, hsx2, hnc, hst, hA, hd1, hd2, hX, hbl, hbA, hk0, hLo, hk1, hk3, hk2⟩ := id C
  unfold mlc_41 at hf
  refine lv_aload_n hx hb (dc tbL_law_16_k 35 rfl) rfl (lv_at hl 1 rfl) ?_
  obtain ⟨M3, r2, q1, hf⟩ := cal_s hf
  refine l_calli (g_runV hx hb hml hown hts hK hap hsx hI (tX6_lastSteps l hk0 q1 H.size) cv_X6_lastSteps q_t3_155 rfl rfl ⟨Nat.le_of_ble_eq_true rfl, Nat.le_of_ble_eq_true rfl⟩ hk0.1 (by simp) rfl rfl rfl hl.1 rfl (Nat.le_of_ble_eq_true rfl) (dc tbL_law_16_k 36 rfl) ⟨by have := hc.1; show _ ≤ 601024; omega, by have := hc.2; show _ ≤ 7293034; omega⟩) hI hJ hA hd1 (fun H locs hI hJ => ?_)
  refine lv_pop hx hb (dc tbL_law_16_k 37 rfl) rfl ?_
  refine lv_aload_n hx hb (dc tbL_law_16_k 38 rfl) rfl (lv_at hl 2 rfl) ?_
  obtain ⟨N6, r5, q4, hf⟩ := cal_s hf
  refine l_calli (g_runV hx hb hml hown hts hK hap2 hsx2 hJ (tX7_lastSteps l hk2 q4 H.size) cv_X7_lastSteps q_t9_155 rfl rfl ⟨Nat.le_of_ble_eq_true rfl, Nat.le_of_ble_eq_true rfl⟩ hk2.1 (by simp) rfl rfl rfl hl.1 rfl (Nat.le_of_ble_eq_true rfl) (dc tbL_law_16_k 39 rfl) ⟨by have := hc.1; show _ ≤ 601024; omega, by have := hc.2; show _ ≤ 7293034; omega⟩) hJ hI hA.symm hd2 (fun H locs hJ hI => ?_)
  refine lv_pop hx hb (dc tbL_law_17_k 0 rfl) rfl ?_
  refine lv_goto (tgt := 1738) hx hb (dc tbL_law_17_k 1 rfl) rfl ?_
  obtain ⟨h7, hf⟩ := chk_s hf
  cases hf
  refine W.widen (k := cells + 64) (n := slots + 4096) (by omega) (by omega) ?_
  exact hk _ _ _ _ _ C (by rw [of_decide_eq_true h7]; exact hS) hI hJ (lv_sub hl [0, 1, 2, 3, 4, 5] rfl)
def mlc_42 (a1 a2 a3 a4 a5 : Int32) (M N : Mem) : Option (Mem × Mem) := cal (mX6_mostBends 0 M) (fun M3 r2 => cal (mX7_mostBends 135 N) (fun N6 r5 => chk (decide (rd M3 133 0 = rd M 133 0)) (some (M3, N6))))
set_option maxHeartbeats 4000000 in
set_option maxRecDepth 100000 in
theorem lc_42 (hc : cells + 64 ≤ 601024 ∧ slots + 4096 ≤ 7293034) {x5 a0 a1 a2 a3 a4 a5 : Int32} (hs : Sc xs L x5 a0 a1 a2 a3 a4 a5) {M N M' N' : Mem} (hf : mlc_42 a1 a2 a3 a4 a5 M N = some (M', N')) (hk : AtW p l e s m args below meth c L xs G kd' ad' b x5 M' N' Q (cells + 64) (slots + 4096) 1738) : AtW p l e s m args below meth c L xs G kd' ad' b x5 M N Q cells slots 1309 := by
  intro kd ad H locs ls C hS hI hJ hl
  obtain ⟨hx, hb, hml, hown, hts, hK, hap, hap2, hsx, hsx2, hnc, hst, hA, hd1, hd2, hX, hbl, hbA, hk0, hLo, hk1, hk3, hk2⟩ := id C
  unfold mlc_42 at hf
  refine lv_aload_n hx hb (dc tbL_law_17_k 2 rfl) rfl (lv_at hl 1 rfl) ?_
  obtain ⟨M3, r2, q1, hf⟩ := cal_s hf
  refine l_calli (g_runV hx hb hml hown hts hK hap hsx hI (tX6_mostBends l hk0 q1 H.size) cv_X6_mostBends q_t3_163 rfl rfl ⟨Nat.le_of_ble_eq_true rfl, Nat.le_of_ble_eq_true rfl⟩ hk0.1 (by simp) rfl rfl rfl hl.1 rfl (Nat.le_of_ble_eq_true rfl) (dc tbL_law_17_k 3 rfl) ⟨by have := hc.1; show _ ≤ 601024; omega, by have := hc.2; show _ ≤ 7293034; omega⟩) hI hJ hA hd1 (fun H locs hI hJ => ?_)
  refine lv_pop hx hb (dc tbL_law_17_k 4 rfl) rfl ?_
  refine lv_aload_n hx hb (dc tbL_law_17_k 5 rfl) rfl (lv_at hl 2 rfl) ?_
  obtain ⟨N6, r5, q4, hf⟩ := cal_s hf
  refine l_calli (g_runV hx hb hml hown hts hK hap2 hsx2 hJ (tX7_mostBends l hk2 q4 H.size) cv_X7_mostBends q_t9_163 rfl rfl ⟨Nat.le_of_ble_eq_true rfl, Nat.le_of_ble_eq_true rfl⟩ hk2.1 (by simp) rfl rfl rfl hl.1 rfl (Nat.le_of_ble_eq_true rfl) (dc tbL_law_17_k 6 rfl) ⟨by have := hc.1; show _ ≤ 601024; omega, by have := hc.2; show _ ≤ 7293034; omega⟩) hJ hI hA.symm hd2 (fun H locs hJ hI => ?_)
  refine lv_pop hx hb (dc tbL_law_17_k 7 rfl) rfl ?_
  refine lv_goto (tgt := 1738) hx hb (dc tbL_law_17_k 8 rfl) rfl ?_
  obtain ⟨h7, hf⟩ := chk_s hf
  cases hf
  refine W.widen (k := cells + 64) (n := slots + 4096) (by omega) (by omega) ?_
  exact hk _ _ _ _ _ C (by rw [of_decide_eq_true h7]; exact hS) hI hJ (lv_sub hl [0, 1, 2, 3, 4, 5] rfl)
def mlc_43 (a1 a2 a3 a4 a5 : Int32) (M N : Mem) : Option (Mem × Mem) := cal (mX6_greatestBeam 0 M) (fun M3 r2 => cal (mX7_greatestBeam 135 N) (fun N6 r5 => chk (decide (rd M3 133 0 = rd M 133 0)) (some (M3, N6))))
set_option maxHeartbeats 4000000 in
set_option maxRecDepth 100000 in
theorem lc_43 (hc : cells + 64 ≤ 601024 ∧ slots + 4096 ≤ 7293034) {x5 a0 a1 a2 a3 a4 a5 : Int32} (hs : Sc xs L x5 a0 a1 a2 a3 a4 a5) {M N M' N' : Mem} (hf : mlc_43 a1 a2 a3 a4 a5 M N = some (M', N')) (hk : AtW p l e s m args below meth c L xs G kd' ad' b x5 M' N' Q (cells + 64) (slots + 4096) 1738) : AtW p l e s m args below meth c L xs G kd' ad' b x5 M N Q cells slots 1322 := by
  intro kd ad H locs ls C hS hI hJ hl
  obtain ⟨hx, hb, hml, hown, hts, hK, hap, hap2, hsx, hsx2, hnc, hst, hA, hd1, hd2, hX, hbl, hbA, hk0, hLo, hk1, hk3, hk2⟩ := id C
  unfold mlc_43 at hf
  refine lv_aload_n hx hb (dc tbL_law_17_k 9 rfl) rfl (lv_at hl 1 rfl) ?_
  obtain ⟨M3, r2, q1, hf⟩ := cal_s hf
  refine l_calli (g_runV hx hb hml hown hts hK hap hsx hI (tX6_greatestBeam l hk0 q1 H.size) cv_X6_greatestBeam q_t3_178 rfl rfl ⟨Nat.le_of_ble_eq_true rfl, Nat.le_of_ble_eq_true rfl⟩ hk0.1 (by simp) rfl rfl rfl hl.1 rfl (Nat.le_of_ble_eq_true rfl) (dc tbL_law_17_k 10 rfl) ⟨by have := hc.1; show _ ≤ 601024; omega, by have := hc.2; show _ ≤ 7293034; omega⟩) hI hJ hA hd1 (fun H locs hI hJ => ?_)
  refine lv_pop hx hb (dc tbL_law_17_k 11 rfl) rfl ?_
  refine lv_aload_n hx hb (dc tbL_law_17_k 12 rfl) rfl (lv_at hl 2 rfl) ?_
  obtain ⟨N6, r5, q4, hf⟩ := cal_s hf
  refine l_calli (g_runV hx hb hml hown hts hK hap2 hsx2 hJ (tX7_greatestBeam l hk2 q4 H.size) cv_X7_greatestBeam q_t9_167 rfl rfl ⟨Nat.le_of_ble_eq_true rfl, Nat.le_of_ble_eq_true rfl⟩ hk2.1 (by simp) rfl rfl rfl hl.1 rfl (Nat.le_of_ble_eq_true rfl) (dc tbL_law_17_k 13 rfl) ⟨by have := hc.1; show _ ≤ 601024; omega, by have := hc.2; show _ ≤ 7293034; omega⟩) hJ hI hA.symm hd2 (fun H locs hJ hI => ?_)
  refine lv_pop hx hb (dc tbL_law_17_k 14 rfl) rfl ?_
  refine lv_goto (tgt := 1738) hx hb (dc tbL_law_17_k 15 rfl) rfl ?_
  obtain ⟨h7, hf⟩ := chk_s hf
  cases hf
  refine W.widen (k := cells + 64) (n := slots + 4096) (by omega) (by omega) ?_
  exact hk _ _ _ _ _ C (by rw [of_decide_eq_true h7]; exact hS) hI hJ (lv_sub hl [0, 1, 2, 3, 4, 5] rfl)
def mlc_44 (a1 a2 a3 a4 a5 : Int32) (M N : Mem) : Option (Mem × Mem) := calh (mL_costIfTurned 0 152 a1 M) (fun M3 r2 => cal (mX7_costIfTurned 135 a1 N) (fun N6 r5 => chk (decide (rd M3 133 0 = rd M 133 0)) (some (M3, N6))))
set_option maxHeartbeats 4000000 in
set_option maxRecDepth 100000 in
theorem lc_44 (hc : cells + 64 ≤ 601024 ∧ slots + 4096 ≤ 7293034) {x5 a0 a1 a2 a3 a4 a5 : Int32} (hs : Sc xs L x5 a0 a1 a2 a3 a4 a5) {M N M' N' : Mem} (hf : mlc_44 a1 a2 a3 a4 a5 M N = some (M', N')) (hk : AtW p l e s m args below meth c L xs G kd' ad' b x5 M' N' Q (cells + 64) (slots + 4096) 1738) : AtW p l e s m args below meth c L xs G kd' ad' b x5 M N Q cells slots 1335 := by
  intro kd ad H locs ls C hS hI hJ hl
  obtain ⟨hx, hb, hml, hown, hts, hK, hap, hap2, hsx, hsx2, hnc, hst, hA, hd1, hd2, hX, hbl, hbA, hk0, hLo, hk1, hk3, hk2⟩ := id C
  unfold mlc_44 at hf
  refine lv_aload_n hx hb (dc tbL_law_17_k 16 rfl) rfl (lv_at hl 1 rfl) ?_
  refine lv_aload_n hx hb (dc tbL_law_17_k 17 rfl) rfl (lv_at hl 0 rfl) ?_
  refine lv_iload hx hb (dc tbL_law_17_k 18 rfl) (lv_at hl 5 rfl) ?_
  refine lv_iconst (v := 1) hx hb (dc tbL_law_17_k 19 rfl) ic_1 ?_
  refine lv_iadd hx hb (dc tbL_law_17_k 20 rfl) ?_
  refine l_sld hx hb hX hbl hbA hI hs.2.1.1 hs.2.1.2 (dc tbL_law_17_k 21 rfl) ?_
  refine lv_aload_n hx hb (dc tbL_law_17_k 22 rfl) rfl (lv_at hl 3 rfl) ?_
  obtain ⟨M3, r2, q1, hf⟩ := calh_s hf
  refine l_callH (g_runH hx hb hml hown hts hK hap hsx hnc hI (tL_costIfTurned l hst hk0 hk1 q1 H.size) ch_L_costIfTurned q_t6_182 rfl rfl ⟨Nat.le_of_ble_eq_true rfl, Nat.le_of_ble_eq_true rfl⟩ rfl hl.1 rfl (Nat.le_of_ble_eq_true rfl) (dc tbL_law_17_k 23 rfl) ⟨by have := hc.1; show _ ≤ 601024; omega, by have := hc.2; show _ ≤ 7293034; omega⟩) hI hJ hA hd1 (fun H locs hI hJ => ?_)
  refine lv_istore (lv' := [(6, .int r2), (0, .ref b), (1, .ref (ad 0)), (2, .ref (ad' 135)), (3, .ref (ad 152)), (4, .ref (ad 153)), (5, .int x5)]) hx hb (dc tbL_law_17_k 24 rfl) hl (by decide) rfl (fun ls hl => ?_)
  refine lv_aload_n hx hb (dc tbL_law_17_k 25 rfl) rfl (lv_at hl 3 rfl) ?_
  refine lv_aload_n hx hb (dc tbL_law_17_k 26 rfl) rfl (lv_at hl 1 rfl) ?_
  refine lv_iload hx hb (dc tbL_law_17_k 27 rfl) (lv_at hl 6 rfl) ?_
  refine lv_iconst (v := 1) hx hb (dc tbL_law_17_k 28 rfl) ic_1 ?_
  refine lv_iadd hx hb (dc tbL_law_17_k 29 rfl) ?_
  refine l_sld hx hb hX hbl hbA hI hs.2.1.1 hs.2.1.2 (dc tbL_law_17_k 30 rfl) ?_
  obtain ⟨N6, r5, q4, hf⟩ := cal_s hf
  refine l_calli (g_runV hx hb hml hown hts hK hap2 hsx2 hJ (tX7_costIfTurned l hk2 q4 H.size) cv_X7_costIfTurned q_t9_171 rfl rfl ⟨Nat.le_of_ble_eq_true rfl, Nat.le_of_ble_eq_true rfl⟩ hk2.1 (by simp) rfl rfl rfl hl.1 rfl (Nat.le_of_ble_eq_true rfl) (dc tbL_law_17_k 31 rfl) ⟨by have := hc.1; show _ ≤ 601024; omega, by have := hc.2; show _ ≤ 7293034; omega⟩) hJ hI hA.symm hd2 (fun H locs hJ hI => ?_)
  refine lv_istore (lv' := [(7, .int r5), (6, .int r2), (0, .ref b), (1, .ref (ad 0)), (2, .ref (ad' 135)), (3, .ref (ad 152)), (4, .ref (ad 153)), (5, .int x5)]) hx hb (dc tbL_law_17_k 32 rfl) hl (by decide) rfl (fun ls hl => ?_)
  refine lv_goto (tgt := 1738) hx hb (dc tbL_law_17_k 33 rfl) rfl ?_
  obtain ⟨h7, hf⟩ := chk_s hf
  cases hf
  refine W.widen (k := cells + 64) (n := slots + 4096) (by omega) (by omega) ?_
  exact hk _ _ _ _ _ C (by rw [of_decide_eq_true h7]; exact hS) hI hJ (lv_sub hl [2, 3, 4, 5, 6, 7] rfl)
def mlc_45 (a1 a2 a3 a4 a5 : Int32) (M N : Mem) : Option (Mem × Mem) := calh (mL_fold 0 152 a1 a2 M) (fun M3 r2 => cal (mX7_fold 135 a1 a2 N) (fun N6 r5 => chk (decide (rd M3 133 0 = rd M 133 0)) (some (M3, N6))))
set_option maxHeartbeats 4000000 in
set_option maxRecDepth 100000 in
theorem lc_45 (hc : cells + 64 ≤ 601024 ∧ slots + 4096 ≤ 7293034) {x5 a0 a1 a2 a3 a4 a5 : Int32} (hs : Sc xs L x5 a0 a1 a2 a3 a4 a5) {M N M' N' : Mem} (hf : mlc_45 a1 a2 a3 a4 a5 M N = some (M', N')) (hk : AtW p l e s m args below meth c L xs G kd' ad' b x5 M' N' Q (cells + 64) (slots + 4096) 1738) : AtW p l e s m args below meth c L xs G kd' ad' b x5 M N Q cells slots 1363 := by
  intro kd ad H locs ls C hS hI hJ hl
  obtain ⟨hx, hb, hml, hown, hts, hK, hap, hap2, hsx, hsx2, hnc, hst, hA, hd1, hd2, hX, hbl, hbA, hk0, hLo, hk1, hk3, hk2⟩ := id C
  unfold mlc_45 at hf
  refine lv_aload_n hx hb (dc tbL_law_17_k 34 rfl) rfl (lv_at hl 1 rfl) ?_
  refine lv_aload_n hx hb (dc tbL_law_17_k 35 rfl) rfl (lv_at hl 0 rfl) ?_
  refine lv_iload hx hb (dc tbL_law_17_k 36 rfl) (lv_at hl 5 rfl) ?_
  refine lv_iconst (v := 1) hx hb (dc tbL_law_17_k 37 rfl) ic_1 ?_
  refine lv_iadd hx hb (dc tbL_law_17_k 38 rfl) ?_
  refine l_sld hx hb hX hbl hbA hI hs.2.1.1 hs.2.1.2 (dc tbL_law_17_k 39 rfl) ?_
  refine lv_aload_n hx hb (dc tbL_law_18_k 0 rfl) rfl (lv_at hl 0 rfl) ?_
  refine lv_iload hx hb (dc tbL_law_18_k 1 rfl) (lv_at hl 5 rfl) ?_
  refine lv_iconst (v := 2) hx hb (dc tbL_law_18_k 2 rfl) ic_2 ?_
  refine lv_iadd hx hb (dc tbL_law_18_k 3 rfl) ?_
  refine l_sld hx hb hX hbl hbA hI hs.2.2.1.1 hs.2.2.1.2 (dc tbL_law_18_k 4 rfl) ?_
  refine lv_aload_n hx hb (dc tbL_law_18_k 5 rfl) rfl (lv_at hl 3 rfl) ?_
  obtain ⟨M3, r2, q1, hf⟩ := calh_s hf
  refine l_callH (g_runH hx hb hml hown hts hK hap hsx hnc hI (tL_fold l hst hk0 hk1 q1 H.size) ch_L_fold q_t6_210 rfl rfl ⟨Nat.le_of_ble_eq_true rfl, Nat.le_of_ble_eq_true rfl⟩ rfl hl.1 rfl (Nat.le_of_ble_eq_true rfl) (dc tbL_law_18_k 6 rfl) ⟨by have := hc.1; show _ ≤ 601024; omega, by have := hc.2; show _ ≤ 7293034; omega⟩) hI hJ hA hd1 (fun H locs hI hJ => ?_)
  refine lv_istore (lv' := [(6, .int r2), (0, .ref b), (1, .ref (ad 0)), (2, .ref (ad' 135)), (3, .ref (ad 152)), (4, .ref (ad 153)), (5, .int x5)]) hx hb (dc tbL_law_18_k 7 rfl) hl (by decide) rfl (fun ls hl => ?_)
  refine lv_aload_n hx hb (dc tbL_law_18_k 8 rfl) rfl (lv_at hl 3 rfl) ?_
  refine lv_aload_n hx hb (dc tbL_law_18_k 9 rfl) rfl (lv_at hl 1 rfl) ?_
  refine lv_iload hx hb (dc tbL_law_18_k 10 rfl) (lv_at hl 6 rfl) ?_
  refine lv_iconst (v := 1) hx hb (dc tbL_law_18_k 11 rfl) ic_1 ?_
  refine lv_iadd hx hb (dc tbL_law_18_k 12 rfl) ?_
  refine l_sld hx hb hX hbl hbA hI hs.2.1.1 hs.2.1.2 (dc tbL_law_18_k 13 rfl) ?_
  refine lv_aload_n hx hb (dc tbL_law_18_k 14 rfl) rfl (lv_at hl 1 rfl) ?_
  refine lv_iload hx hb (dc tbL_law_18_k 15 rfl) (lv_at hl 6 rfl) ?_
  refine lv_iconst (v := 2) hx hb (dc tbL_law_18_k 16 rfl) ic_2 ?_
  refine lv_iadd hx hb (dc tbL_law_18_k 17 rfl) ?_
  refine l_sld hx hb hX hbl hbA hI hs.2.2.1.1 hs.2.2.1.2 (dc tbL_law_18_k 18 rfl) ?_
  obtain ⟨N6, r5, q4, hf⟩ := cal_s hf
  refine l_calli (g_runV hx hb hml hown hts hK hap2 hsx2 hJ (tX7_fold l hk2 q4 H.size) cv_X7_fold q_t9_175 rfl rfl ⟨Nat.le_of_ble_eq_true rfl, Nat.le_of_ble_eq_true rfl⟩ hk2.1 (by simp) rfl rfl rfl hl.1 rfl (Nat.le_of_ble_eq_true rfl) (dc tbL_law_18_k 19 rfl) ⟨by have := hc.1; show _ ≤ 601024; omega, by have := hc.2; show _ ≤ 7293034; omega⟩) hJ hI hA.symm hd2 (fun H locs hJ hI => ?_)
  refine lv_istore (lv' := [(7, .int r5), (6, .int r2), (0, .ref b), (1, .ref (ad 0)), (2, .ref (ad' 135)), (3, .ref (ad 152)), (4, .ref (ad 153)), (5, .int x5)]) hx hb (dc tbL_law_18_k 20 rfl) hl (by decide) rfl (fun ls hl => ?_)
  refine lv_goto (tgt := 1738) hx hb (dc tbL_law_18_k 21 rfl) rfl ?_
  obtain ⟨h7, hf⟩ := chk_s hf
  cases hf
  refine W.widen (k := cells + 64) (n := slots + 4096) (by omega) (by omega) ?_
  exact hk _ _ _ _ _ C (by rw [of_decide_eq_true h7]; exact hS) hI hJ (lv_sub hl [2, 3, 4, 5, 6, 7] rfl)
def mlc_46 (a1 a2 a3 a4 a5 : Int32) (M N : Mem) : Option (Mem × Mem) := calh (mL_foldNext 0 152 M) (fun M3 r2 => cal (mX7_foldNext 135 N) (fun N6 r5 => chk (decide (rd M3 133 0 = rd M 133 0)) (some (M3, N6))))
set_option maxHeartbeats 4000000 in
set_option maxRecDepth 100000 in
theorem lc_46 (hc : cells + 64 ≤ 601024 ∧ slots + 4096 ≤ 7293034) {x5 a0 a1 a2 a3 a4 a5 : Int32} (hs : Sc xs L x5 a0 a1 a2 a3 a4 a5) {M N M' N' : Mem} (hf : mlc_46 a1 a2 a3 a4 a5 M N = some (M', N')) (hk : AtW p l e s m args below meth c L xs G kd' ad' b x5 M' N' Q (cells + 64) (slots + 4096) 1738) : AtW p l e s m args below meth c L xs G kd' ad' b x5 M N Q cells slots 1403 := by
  intro kd ad H locs ls C hS hI hJ hl
  obtain ⟨hx, hb, hml, hown, hts, hK, hap, hap2, hsx, hsx2, hnc, hst, hA, hd1, hd2, hX, hbl, hbA, hk0, hLo, hk1, hk3, hk2⟩ := id C
  unfold mlc_46 at hf
  refine lv_aload_n hx hb (dc tbL_law_18_k 22 rfl) rfl (lv_at hl 1 rfl) ?_
  refine lv_aload_n hx hb (dc tbL_law_18_k 23 rfl) rfl (lv_at hl 3 rfl) ?_
  obtain ⟨M3, r2, q1, hf⟩ := calh_s hf
  refine l_callH (g_runH hx hb hml hown hts hK hap hsx hnc hI (tL_foldNext l hst hk0 hk1 q1 H.size) ch_L_foldNext q_t6_226 rfl rfl ⟨Nat.le_of_ble_eq_true rfl, Nat.le_of_ble_eq_true rfl⟩ rfl hl.1 rfl (Nat.le_of_ble_eq_true rfl) (dc tbL_law_18_k 24 rfl) ⟨by have := hc.1; show _ ≤ 601024; omega, by have := hc.2; show _ ≤ 7293034; omega⟩) hI hJ hA hd1 (fun H locs hI hJ => ?_)
  refine lv_istore (lv' := [(6, .int r2), (0, .ref b), (1, .ref (ad 0)), (2, .ref (ad' 135)), (3, .ref (ad 152)), (4, .ref (ad 153)), (5, .int x5)]) hx hb (dc tbL_law_18_k 25 rfl) hl (by decide) rfl (fun ls hl => ?_)
  refine lv_aload_n hx hb (dc tbL_law_18_k 26 rfl) rfl (lv_at hl 3 rfl) ?_
  obtain ⟨N6, r5, q4, hf⟩ := cal_s hf
  refine l_calli (g_runV hx hb hml hown hts hK hap2 hsx2 hJ (tX7_foldNext l hk2 q4 H.size) cv_X7_foldNext q_t9_191 rfl rfl ⟨Nat.le_of_ble_eq_true rfl, Nat.le_of_ble_eq_true rfl⟩ hk2.1 (by simp) rfl rfl rfl hl.1 rfl (Nat.le_of_ble_eq_true rfl) (dc tbL_law_18_k 27 rfl) ⟨by have := hc.1; show _ ≤ 601024; omega, by have := hc.2; show _ ≤ 7293034; omega⟩) hJ hI hA.symm hd2 (fun H locs hJ hI => ?_)
  refine lv_istore (lv' := [(7, .int r5), (6, .int r2), (0, .ref b), (1, .ref (ad 0)), (2, .ref (ad' 135)), (3, .ref (ad 152)), (4, .ref (ad 153)), (5, .int x5)]) hx hb (dc tbL_law_18_k 28 rfl) hl (by decide) rfl (fun ls hl => ?_)
  refine lv_goto (tgt := 1738) hx hb (dc tbL_law_18_k 29 rfl) rfl ?_
  obtain ⟨h7, hf⟩ := chk_s hf
  cases hf
  refine W.widen (k := cells + 64) (n := slots + 4096) (by omega) (by omega) ?_
  exact hk _ _ _ _ _ C (by rw [of_decide_eq_true h7]; exact hS) hI hJ (lv_sub hl [2, 3, 4, 5, 6, 7] rfl)
def mlc_47 (a1 a2 a3 a4 a5 : Int32) (M N : Mem) : Option (Mem × Mem) := cal (mX6_unfold 0 M) (fun M3 r2 => cal (mX7_unfold 135 N) (fun N6 r5 => chk (decide (rd M3 133 0 = rd M 133 0)) (some (M3, N6))))
set_option maxHeartbeats 4000000 in
set_option maxRecDepth 100000 in
theorem lc_47 (hc : cells + 64 ≤ 601024 ∧ slots + 4096 ≤ 7293034) {x5 a0 a1 a2 a3 a4 a5 : Int32} (hs : Sc xs L x5 a0 a1 a2 a3 a4 a5) {M N M' N' : Mem} (hf : mlc_47 a1 a2 a3 a4 a5 M N = some (M', N')) (hk : AtW p l e s m args below meth c L xs G kd' ad' b x5 M' N' Q (cells + 64) (slots + 4096) 1738) : AtW p l e s m args below meth c L xs G kd' ad' b x5 M N Q cells slots 1419 := by
  intro kd ad H locs ls C hS hI hJ hl
  obtain ⟨hx, hb, hml, hown, hts, hK, hap, hap2, hsx, hsx2, hnc, hst, hA, hd1, hd2, hX, hbl, hbA, hk0, hLo, hk1, hk3, hk2⟩ := id C
  unfold mlc_47 at hf
  refine lv_aload_n hx hb (dc tbL_law_18_k 30 rfl) rfl (lv_at hl 1 rfl) ?_
  obtain ⟨M3, r2, q1, hf⟩ := cal_s hf
  refine l_calli (g_runV hx hb hml hown hts hK hap hsx hI (tX6_unfold l hk0 q1 H.size) cv_X6_unfold q_t3_187 rfl rfl ⟨Nat.le_of_ble_eq_true rfl, Nat.le_of_ble_eq_true rfl⟩ hk0.1 (by simp) rfl rfl rfl hl.1 rfl (Nat.le_of_ble_eq_true rfl) (dc tbL_law_18_k 31 rfl) ⟨by have := hc.1; show _ ≤ 601024; omega, by have := hc.2; show _ ≤ 7293034; omega⟩) hI hJ hA hd1 (fun H locs hI hJ => ?_)
  refine lv_pop hx hb (dc tbL_law_18_k 32 rfl) rfl ?_
  refine lv_aload_n hx hb (dc tbL_law_18_k 33 rfl) rfl (lv_at hl 2 rfl) ?_
  obtain ⟨N6, r5, q4, hf⟩ := cal_s hf
  refine l_calli (g_runV hx hb hml hown hts hK hap2 hsx2 hJ (tX7_unfold l hk2 q4 H.size) cv_X7_unfold q_t9_195 rfl rfl ⟨Nat.le_of_ble_eq_true rfl, Nat.le_of_ble_eq_true rfl⟩ hk2.1 (by simp) rfl rfl rfl hl.1 rfl (Nat.le_of_ble_eq_true rfl) (dc tbL_law_18_k 34 rfl) ⟨by have := hc.1; show _ ≤ 601024; omega, by have := hc.2; show _ ≤ 7293034; omega⟩) hJ hI hA.symm hd2 (fun H locs hJ hI => ?_)
  refine lv_pop hx hb (dc tbL_law_18_k 35 rfl) rfl ?_
  refine lv_goto (tgt := 1738) hx hb (dc tbL_law_18_k 36 rfl) rfl ?_
  obtain ⟨h7, hf⟩ := chk_s hf
  cases hf
  refine W.widen (k := cells + 64) (n := slots + 4096) (by omega) (by omega) ?_
  exact hk _ _ _ _ _ C (by rw [of_decide_eq_true h7]; exact hS) hI hJ (lv_sub hl [0, 1, 2, 3, 4, 5] rfl)
def mlc_48 (a1 a2 a3 a4 a5 : Int32) (M N : Mem) : Option (Mem × Mem) := calh (mL_setLeg 0 152 a1 a2 M) (fun M3 r2 => cal (mX7_setLeg 135 a1 a2 N) (fun N6 r5 => chk (decide (rd M3 133 0 = rd M 133 0)) (some (M3, N6))))
set_option maxHeartbeats 4000000 in
set_option maxRecDepth 100000 in
theorem lc_48 (hc : cells + 64 ≤ 601024 ∧ slots + 4096 ≤ 7293034) {x5 a0 a1 a2 a3 a4 a5 : Int32} (hs : Sc xs L x5 a0 a1 a2 a3 a4 a5) {M N M' N' : Mem} (hf : mlc_48 a1 a2 a3 a4 a5 M N = some (M', N')) (hk : AtW p l e s m args below meth c L xs G kd' ad' b x5 M' N' Q (cells + 64) (slots + 4096) 1738) : AtW p l e s m args below meth c L xs G kd' ad' b x5 M N Q cells slots 1432 := by
  intro kd ad H locs ls C hS hI hJ hl
  obtain ⟨hx, hb, hml, hown, hts, hK, hap, hap2, hsx, hsx2, hnc, hst, hA, hd1, hd2, hX, hbl, hbA, hk0, hLo, hk1, hk3, hk2⟩ := id C
  unfold mlc_48 at hf
  refine lv_aload_n hx hb (dc tbL_law_18_k 37 rfl) rfl (lv_at hl 1 rfl) ?_
  refine lv_aload_n hx hb (dc tbL_law_18_k 38 rfl) rfl (lv_at hl 0 rfl) ?_
  refine lv_iload hx hb (dc tbL_law_18_k 39 rfl) (lv_at hl 5 rfl) ?_
  refine lv_iconst (v := 1) hx hb (dc tbL_law_19_k 0 rfl) ic_1 ?_
  refine lv_iadd hx hb (dc tbL_law_19_k 1 rfl) ?_
  refine l_sld hx hb hX hbl hbA hI hs.2.1.1 hs.2.1.2 (dc tbL_law_19_k 2 rfl) ?_
  refine lv_aload_n hx hb (dc tbL_law_19_k 3 rfl) rfl (lv_at hl 0 rfl) ?_
  refine lv_iload hx hb (dc tbL_law_19_k 4 rfl) (lv_at hl 5 rfl) ?_
  refine lv_iconst (v := 2) hx hb (dc tbL_law_19_k 5 rfl) ic_2 ?_
  refine lv_iadd hx hb (dc tbL_law_19_k 6 rfl) ?_
  refine l_sld hx hb hX hbl hbA hI hs.2.2.1.1 hs.2.2.1.2 (dc tbL_law_19_k 7 rfl) ?_
  refine lv_aload_n hx hb (dc tbL_law_19_k 8 rfl) rfl (lv_at hl 3 rfl) ?_
  obtain ⟨M3, r2, q1, hf⟩ := calh_s hf
  refine l_callH (g_runH hx hb hml hown hts hK hap hsx hnc hI (tL_setLeg l hst hk0 hk1 q1 H.size) ch_L_setLeg q_t6_234 rfl rfl ⟨Nat.le_of_ble_eq_true rfl, Nat.le_of_ble_eq_true rfl⟩ rfl hl.1 rfl (Nat.le_of_ble_eq_true rfl) (dc tbL_law_19_k 9 rfl) ⟨by have := hc.1; show _ ≤ 601024; omega, by have := hc.2; show _ ≤ 7293034; omega⟩) hI hJ hA hd1 (fun H locs hI hJ => ?_)
  refine lv_istore (lv' := [(6, .int r2), (0, .ref b), (1, .ref (ad 0)), (2, .ref (ad' 135)), (3, .ref (ad 152)), (4, .ref (ad 153)), (5, .int x5)]) hx hb (dc tbL_law_19_k 10 rfl) hl (by decide) rfl (fun ls hl => ?_)
  refine lv_aload_n hx hb (dc tbL_law_19_k 11 rfl) rfl (lv_at hl 3 rfl) ?_
  refine lv_aload_n hx hb (dc tbL_law_19_k 12 rfl) rfl (lv_at hl 1 rfl) ?_
  refine lv_iload hx hb (dc tbL_law_19_k 13 rfl) (lv_at hl 6 rfl) ?_
  refine lv_iconst (v := 1) hx hb (dc tbL_law_19_k 14 rfl) ic_1 ?_
  refine lv_iadd hx hb (dc tbL_law_19_k 15 rfl) ?_
  refine l_sld hx hb hX hbl hbA hI hs.2.1.1 hs.2.1.2 (dc tbL_law_19_k 16 rfl) ?_
  refine lv_aload_n hx hb (dc tbL_law_19_k 17 rfl) rfl (lv_at hl 1 rfl) ?_
  refine lv_iload hx hb (dc tbL_law_19_k 18 rfl) (lv_at hl 6 rfl) ?_
  refine lv_iconst (v := 2) hx hb (dc tbL_law_19_k 19 rfl) ic_2 ?_
  refine lv_iadd hx hb (dc tbL_law_19_k 20 rfl) ?_
  refine l_sld hx hb hX hbl hbA hI hs.2.2.1.1 hs.2.2.1.2 (dc tbL_law_19_k 21 rfl) ?_
  obtain ⟨N6, r5, q4, hf⟩ := cal_s hf
  refine l_calli (g_runV hx hb hml hown hts hK hap2 hsx2 hJ (tX7_setLeg l hk2 q4 H.size) cv_X7_setLeg q_t9_199 rfl rfl ⟨Nat.le_of_ble_eq_true rfl, Nat.le_of_ble_eq_true rfl⟩ hk2.1 (by simp) rfl rfl rfl hl.1 rfl (Nat.le_of_ble_eq_true rfl) (dc tbL_law_19_k 22 rfl) ⟨by have := hc.1; show _ ≤ 601024; omega, by have := hc.2; show _ ≤ 7293034; omega⟩) hJ hI hA.symm hd2 (fun H locs hJ hI => ?_)
  refine lv_istore (lv' := [(7, .int r5), (6, .int r2), (0, .ref b), (1, .ref (ad 0)), (2, .ref (ad' 135)), (3, .ref (ad 152)), (4, .ref (ad 153)), (5, .int x5)]) hx hb (dc tbL_law_19_k 23 rfl) hl (by decide) rfl (fun ls hl => ?_)
  refine lv_goto (tgt := 1738) hx hb (dc tbL_law_19_k 24 rfl) rfl ?_
  obtain ⟨h7, hf⟩ := chk_s hf
  cases hf
  refine W.widen (k := cells + 64) (n := slots + 4096) (by omega) (by omega) ?_
  exact hk _ _ _ _ _ C (by rw [of_decide_eq_true h7]; exact hS) hI hJ (lv_sub hl [2, 3, 4, 5, 6, 7] rfl)
def mlc_49 (a1 a2 a3 a4 a5 : Int32) (M N : Mem) : Option (Mem × Mem) := ite2 (a2 = 0) (calh (mL_setDirection 0 152 a1 (0 : Int32) M) (fun M4 r3 => ite2 (a2 = 0) (cal (mX7_setDirection 135 a1 (0 : Int32) N) (fun N8 r7 => chk (decide (rd M4 133 0 = rd M 133 0)) (some (M4, N8)))) (cal (mX7_setDirection 135 a1 (1 : Int32) N) (fun N12 r11 => chk (decide (rd M4 133 0 = rd M 133 0)) (some (M4, N12)))))) (calh (mL_setDirection 0 152 a1 (1 : Int32) M) (fun M16 r15 => ite2 (a2 = 0) (cal (mX7_setDirection 135 a1 (0 : Int32) N) (fun N20 r19 => chk (decide (rd M16 133 0 = rd M 133 0)) (some (M16, N20)))) (cal (mX7_setDirection 135 a1 (1 : Int32) N) (fun N24 r23 => chk (decide (rd M16 133 0 = rd M 133 0)) (some (M16, N24))))))
set_option maxHeartbeats 4000000 in
set_option maxRecDepth 100000 in
theorem lc_49 (hc : cells + 64 ≤ 601024 ∧ slots + 4096 ≤ 7293034) {x5 a0 a1 a2 a3 a4 a5 : Int32} (hs : Sc xs L x5 a0 a1 a2 a3 a4 a5) {M N M' N' : Mem} (hf : mlc_49 a1 a2 a3 a4 a5 M N = some (M', N')) (hk : AtW p l e s m args below meth c L xs G kd' ad' b x5 M' N' Q (cells + 64) (slots + 4096) 1738) : AtW p l e s m args below meth c L xs G kd' ad' b x5 M N Q cells slots 1472 := by
  intro kd ad H locs ls C hS hI hJ hl
  obtain ⟨hx, hb, hml, hown, hts, hK, hap, hap2, hsx, hsx2, hnc, hst, hA, hd1, hd2, hX, hbl, hbA, hk0, hLo, hk1, hk3, hk2⟩ := id C
  unfold mlc_49 at hf
  refine lv_aload_n hx hb (dc tbL_law_19_k 25 rfl) rfl (lv_at hl 1 rfl) ?_
  refine lv_aload_n hx hb (dc tbL_law_19_k 26 rfl) rfl (lv_at hl 0 rfl) ?_
  refine lv_iload hx hb (dc tbL_law_19_k 27 rfl) (lv_at hl 5 rfl) ?_
  refine lv_iconst (v := 1) hx hb (dc tbL_law_19_k 28 rfl) ic_1 ?_
  refine lv_iadd hx hb (dc tbL_law_19_k 29 rfl) ?_
  refine l_sld hx hb hX hbl hbA hI hs.2.1.1 hs.2.1.2 (dc tbL_law_19_k 30 rfl) ?_
  refine lv_aload_n hx hb (dc tbL_law_19_k 31 rfl) rfl (lv_at hl 0 rfl) ?_
  refine lv_iload hx hb (dc tbL_law_19_k 32 rfl) (lv_at hl 5 rfl) ?_
  refine lv_iconst (v := 2) hx hb (dc tbL_law_19_k 33 rfl) ic_2 ?_
  refine lv_iadd hx hb (dc tbL_law_19_k 34 rfl) ?_
  refine l_sld hx hb hX hbl hbA hI hs.2.2.1.1 hs.2.2.1.2 (dc tbL_law_19_k 35 rfl) ?_
  refine lv_if_eq (tgt := 1492) hx hb (dc tbL_law_19_k 36 rfl) rfl (fun c1 => ?_) (fun c1 => ?_)
  · have hf := ite_t c1 hf
    refine lv_iconst (v := 0) hx hb (dc tbL_law_19_k 39 rfl) ic_0 ?_
    refine lv_aload_n hx hb (dc tbL_law_20_k 0 rfl) rfl (lv_at hl 3 rfl) ?_
    obtain ⟨M4, r3, q2, hf⟩ := calh_s hf
    refine l_callH (g_runH hx hb hml hown hts hK hap hsx hnc hI (tL_setDirection l hst hk0 hk1 q2 H.size) ch_L_setDirection q_t7_4 rfl rfl ⟨Nat.le_of_ble_eq_true rfl, Nat.le_of_ble_eq_true rfl⟩ rfl hl.1 rfl (Nat.le_of_ble_eq_true rfl) (dc tbL_law_20_k 1 rfl) ⟨by have := hc.1; show _ ≤ 601024; omega, by have := hc.2; show _ ≤ 7293034; omega⟩) hI hJ hA hd1 (fun H locs hI hJ => ?_)
    refine lv_istore (lv' := [(6, .int r3), (0, .ref b), (1, .ref (ad 0)), (2, .ref (ad' 135)), (3, .ref (ad 152)), (4, .ref (ad 153)), (5, .int x5)]) hx hb (dc tbL_law_20_k 2 rfl) hl (by decide) rfl (fun ls hl => ?_)
    refine lv_aload_n hx hb (dc tbL_law_20_k 3 rfl) rfl (lv_at hl 3 rfl) ?_
    refine lv_aload_n hx hb (dc tbL_law_20_k 4 rfl) rfl (lv_at hl 1 rfl) ?_
    refine lv_iload hx hb (dc tbL_law_20_k 5 rfl) (lv_at hl 6 rfl) ?_
    refine lv_iconst (v := 1) hx hb (dc tbL_law_20_k 6 rfl) ic_1 ?_
    refine lv_iadd hx hb (dc tbL_law_20_k 7 rfl) ?_
    refine l_sld hx hb hX hbl hbA hI hs.2.1.1 hs.2.1.2 (dc tbL_law_20_k 8 rfl) ?_
    refine lv_aload_n hx hb (dc tbL_law_20_k 9 rfl) rfl (lv_at hl 1 rfl) ?_
    refine lv_iload hx hb (dc tbL_law_20_k 10 rfl) (lv_at hl 6 rfl) ?_
    refine lv_iconst (v := 2) hx hb (dc tbL_law_20_k 11 rfl) ic_2 ?_
    refine lv_iadd hx hb (dc tbL_law_20_k 12 rfl) ?_
    refine l_sld hx hb hX hbl hbA hI hs.2.2.1.1 hs.2.2.1.2 (dc tbL_law_20_k 13 rfl) ?_
    refine lv_if_eq (tgt := 1519) hx hb (dc tbL_law_20_k 14 rfl) rfl (fun c5 => ?_) (fun c5 => ?_)
    · have hf := ite_t c5 hf
      refine lv_iconst (v := 0) hx hb (dc tbL_law_20_k 17 rfl) ic_0 ?_
      obtain ⟨N8, r7, q6, hf⟩ := cal_s hf
      refine l_calli (g_runV hx hb hml hown hts hK hap2 hsx2 hJ (tX7_setDirection l hk2 q6 H.size) cv_X7_setDirection q_t9_208 rfl rfl ⟨Nat.le_of_ble_eq_true rfl, Nat.le_of_ble_eq_true rfl⟩ hk2.1 (by simp) rfl rfl rfl hl.1 rfl (Nat.le_of_ble_eq_true rfl) (dc tbL_law_20_k 18 rfl) ⟨by have := hc.1; show _ ≤ 601024; omega, by have := hc.2; show _ ≤ 7293034; omega⟩) hJ hI hA.symm hd2 (fun H locs hJ hI => ?_)
      refine lv_istore (lv' := [(7, .int r7), (6, .int r3), (0, .ref b), (1, .ref (ad 0)), (2, .ref (ad' 135)), (3, .ref (ad 152)), (4, .ref (ad 153)), (5, .int x5)]) hx hb (dc tbL_law_20_k 19 rfl) hl (by decide) rfl (fun ls hl => ?_)
      refine lv_goto (tgt := 1738) hx hb (dc tbL_law_20_k 20 rfl) rfl ?_
      obtain ⟨h9, hf⟩ := chk_s hf
      cases hf
      refine W.widen (k := cells + 64) (n := slots + 4096) (by omega) (by omega) ?_
      exact hk _ _ _ _ _ C (by rw [of_decide_eq_true h9]; exact hS) hI hJ (lv_sub hl [2, 3, 4, 5, 6, 7] rfl)
    · have hf := ite_f c5 hf
      refine lv_iconst (v := 1) hx hb (dc tbL_law_20_k 15 rfl) ic_1 ?_
      refine lv_goto (tgt := 1520) hx hb (dc tbL_law_20_k 16 rfl) rfl ?_
      obtain ⟨N12, r11, q10, hf⟩ := cal_s hf
      refine l_calli (g_runV hx hb hml hown hts hK hap2 hsx2 hJ (tX7_setDirection l hk2 q10 H.size) cv_X7_setDirection q_t9_208 rfl rfl ⟨Nat.le_of_ble_eq_true rfl, Nat.le_of_ble_eq_true rfl⟩ hk2.1 (by simp) rfl rfl rfl hl.1 rfl (Nat.le_of_ble_eq_true rfl) (dc tbL_law_20_k 18 rfl) ⟨by have := hc.1; show _ ≤ 601024; omega, by have := hc.2; show _ ≤ 7293034; omega⟩) hJ hI hA.symm hd2 (fun H locs hJ hI => ?_)
      refine lv_istore (lv' := [(7, .int r11), (6, .int r3), (0, .ref b), (1, .ref (ad 0)), (2, .ref (ad' 135)), (3, .ref (ad 152)), (4, .ref (ad 153)), (5, .int x5)]) hx hb (dc tbL_law_20_k 19 rfl) hl (by decide) rfl (fun ls hl => ?_)
      refine lv_goto (tgt := 1738) hx hb (dc tbL_law_20_k 20 rfl) rfl ?_
      obtain ⟨h13, hf⟩ := chk_s hf
      cases hf
      refine W.widen (k := cells + 64) (n := slots + 4096) (by omega) (by omega) ?_
      exact hk _ _ _ _ _ C (by rw [of_decide_eq_true h13]; exact hS) hI hJ (lv_sub hl [2, 3, 4, 5, 6, 7] rfl)
  · have hf := ite_f c1 hf
    refine lv_iconst (v := 1) hx hb (dc tbL_law_19_k 37 rfl) ic_1 ?_
    refine lv_goto (tgt := 1493) hx hb (dc tbL_law_19_k 38 rfl) rfl ?_
    refine lv_aload_n hx hb (dc tbL_law_20_k 0 rfl) rfl (lv_at hl 3 rfl) ?_
    obtain ⟨M16, r15, q14, hf⟩ := calh_s hf
    refine l_callH (g_runH hx hb hml hown hts hK hap hsx hnc hI (tL_setDirection l hst hk0 hk1 q14 H.size) ch_L_setDirection q_t7_4 rfl rfl ⟨Nat.le_of_ble_eq_true rfl, Nat.le_of_ble_eq_true rfl⟩ rfl hl.1 rfl (Nat.le_of_ble_eq_true rfl) (dc tbL_law_20_k 1 rfl) ⟨by have := hc.1; show _ ≤ 601024; omega, by have := hc.2; show _ ≤ 7293034; omega⟩) hI hJ hA hd1 (fun H locs hI hJ => ?_)
    refine lv_istore (lv' := [(6, .int r15), (0, .ref b), (1, .ref (ad 0)), (2, .ref (ad' 135)), (3, .ref (ad 152)), (4, .ref (ad 153)), (5, .int x5)]) hx hb (dc tbL_law_20_k 2 rfl) hl (by decide) rfl (fun ls hl => ?_)
    refine lv_aload_n hx hb (dc tbL_law_20_k 3 rfl) rfl (lv_at hl 3 rfl) ?_
    refine lv_aload_n hx hb (dc tbL_law_20_k 4 rfl) rfl (lv_at hl 1 rfl) ?_
    refine lv_iload hx hb (dc tbL_law_20_k 5 rfl) (lv_at hl 6 rfl) ?_
    refine lv_iconst (v := 1) hx hb (dc tbL_law_20_k 6 rfl) ic_1 ?_
    refine lv_iadd hx hb (dc tbL_law_20_k 7 rfl) ?_
    refine l_sld hx hb hX hbl hbA hI hs.2.1.1 hs.2.1.2 (dc tbL_law_20_k 8 rfl) ?_
    refine lv_aload_n hx hb (dc tbL_law_20_k 9 rfl) rfl (lv_at hl 1 rfl) ?_
    refine lv_iload hx hb (dc tbL_law_20_k 10 rfl) (lv_at hl 6 rfl) ?_
    refine lv_iconst (v := 2) hx hb (dc tbL_law_20_k 11 rfl) ic_2 ?_
    refine lv_iadd hx hb (dc tbL_law_20_k 12 rfl) ?_
    refine l_sld hx hb hX hbl hbA hI hs.2.2.1.1 hs.2.2.1.2 (dc tbL_law_20_k 13 rfl) ?_
    refine lv_if_eq (tgt := 1519) hx hb (dc tbL_law_20_k 14 rfl) rfl (fun c17 => ?_) (fun c17 => ?_)
    · have hf := ite_t c17 hf
      refine lv_iconst (v := 0) hx hb (dc tbL_law_20_k 17 rfl) ic_0 ?_
      obtain ⟨N20, r19, q18, hf⟩ := cal_s hf
      refine l_calli (g_runV hx hb hml hown hts hK hap2 hsx2 hJ (tX7_setDirection l hk2 q18 H.size) cv_X7_setDirection q_t9_208 rfl rfl ⟨Nat.le_of_ble_eq_true rfl, Nat.le_of_ble_eq_true rfl⟩ hk2.1 (by simp) rfl rfl rfl hl.1 rfl (Nat.le_of_ble_eq_true rfl) (dc tbL_law_20_k 18 rfl) ⟨by have := hc.1; show _ ≤ 601024; omega, by have := hc.2; show _ ≤ 7293034; omega⟩) hJ hI hA.symm hd2 (fun H locs hJ hI => ?_)
      refine lv_istore (lv' := [(7, .int r19), (6, .int r15), (0, .ref b), (1, .ref (ad 0)), (2, .ref (ad' 135)), (3, .ref (ad 152)), (4, .ref (ad 153)), (5, .int x5)]) hx hb (dc tbL_law_20_k 19 rfl) hl (by decide) rfl (fun ls hl => ?_)
      refine lv_goto (tgt := 1738) hx hb (dc tbL_law_20_k 20 rfl) rfl ?_
      obtain ⟨h21, hf⟩ := chk_s hf
      cases hf
      refine W.widen (k := cells + 64) (n := slots + 4096) (by omega) (by omega) ?_
      exact hk _ _ _ _ _ C (by rw [of_decide_eq_true h21]; exact hS) hI hJ (lv_sub hl [2, 3, 4, 5, 6, 7] rfl)
    · have hf := ite_f c17 hf
      refine lv_iconst (v := 1) hx hb (dc tbL_law_20_k 15 rfl) ic_1 ?_
      refine lv_goto (tgt := 1520) hx hb (dc tbL_law_20_k 16 rfl) rfl ?_
      obtain ⟨N24, r23, q22, hf⟩ := cal_s hf
      refine l_calli (g_runV hx hb hml hown hts hK hap2 hsx2 hJ (tX7_setDirection l hk2 q22 H.size) cv_X7_setDirection q_t9_208 rfl rfl ⟨Nat.le_of_ble_eq_true rfl, Nat.le_of_ble_eq_true rfl⟩ hk2.1 (by simp) rfl rfl rfl hl.1 rfl (Nat.le_of_ble_eq_true rfl) (dc tbL_law_20_k 18 rfl) ⟨by have := hc.1; show _ ≤ 601024; omega, by have := hc.2; show _ ≤ 7293034; omega⟩) hJ hI hA.symm hd2 (fun H locs hJ hI => ?_)
      refine lv_istore (lv' := [(7, .int r23), (6, .int r15), (0, .ref b), (1, .ref (ad 0)), (2, .ref (ad' 135)), (3, .ref (ad 152)), (4, .ref (ad 153)), (5, .int x5)]) hx hb (dc tbL_law_20_k 19 rfl) hl (by decide) rfl (fun ls hl => ?_)
      refine lv_goto (tgt := 1738) hx hb (dc tbL_law_20_k 20 rfl) rfl ?_
      obtain ⟨h25, hf⟩ := chk_s hf
      cases hf
      refine W.widen (k := cells + 64) (n := slots + 4096) (by omega) (by omega) ?_
      exact hk _ _ _ _ _ C (by rw [of_decide_eq_true h25]; exact hS) hI hJ (lv_sub hl [2, 3, 4, 5, 6, 7] rfl)
def mlc_50 (a1 a2 a3 a4 a5 : Int32) (M N : Mem) : Option (Mem × Mem) := calh (mL_setTool 0 152 a1 a2 a3 M) (fun M3 r2 => cal (mX7_setTool 135 a1 a2 a3 N) (fun N6 r5 => chk (decide (rd M3 133 0 = rd M 133 0)) (some (M3, N6))))
set_option maxHeartbeats 4000000 in
set_option maxRecDepth 100000 in
theorem lc_50 (hc : cells + 64 ≤ 601024 ∧ slots + 4096 ≤ 7293034) {x5 a0 a1 a2 a3 a4 a5 : Int32} (hs : Sc xs L x5 a0 a1 a2 a3 a4 a5) {M N M' N' : Mem} (hf : mlc_50 a1 a2 a3 a4 a5 M N = some (M', N')) (hk : AtW p l e s m args below meth c L xs G kd' ad' b x5 M' N' Q (cells + 64) (slots + 4096) 1738) : AtW p l e s m args below meth c L xs G kd' ad' b x5 M N Q cells slots 1528 := by
  intro kd ad H locs ls C hS hI hJ hl
  obtain ⟨hx, hb, hml, hown, hts, hK, hap, hap2, hsx, hsx2, hnc, hst, hA, hd1, hd2, hX, hbl, hbA, hk0, hLo, hk1, hk3, hk2⟩ := id C
  unfold mlc_50 at hf
  refine lv_aload_n hx hb (dc tbL_law_20_k 21 rfl) rfl (lv_at hl 1 rfl) ?_
  refine lv_aload_n hx hb (dc tbL_law_20_k 22 rfl) rfl (lv_at hl 0 rfl) ?_
  refine lv_iload hx hb (dc tbL_law_20_k 23 rfl) (lv_at hl 5 rfl) ?_
  refine lv_iconst (v := 1) hx hb (dc tbL_law_20_k 24 rfl) ic_1 ?_
  refine lv_iadd hx hb (dc tbL_law_20_k 25 rfl) ?_
  refine l_sld hx hb hX hbl hbA hI hs.2.1.1 hs.2.1.2 (dc tbL_law_20_k 26 rfl) ?_
  refine lv_aload_n hx hb (dc tbL_law_20_k 27 rfl) rfl (lv_at hl 0 rfl) ?_
  refine lv_iload hx hb (dc tbL_law_20_k 28 rfl) (lv_at hl 5 rfl) ?_
  refine lv_iconst (v := 2) hx hb (dc tbL_law_20_k 29 rfl) ic_2 ?_
  refine lv_iadd hx hb (dc tbL_law_20_k 30 rfl) ?_
  refine l_sld hx hb hX hbl hbA hI hs.2.2.1.1 hs.2.2.1.2 (dc tbL_law_20_k 31 rfl) ?_
  refine lv_aload_n hx hb (dc tbL_law_20_k 32 rfl) rfl (lv_at hl 0 rfl) ?_
  refine lv_iload hx hb (dc tbL_law_20_k 33 rfl) (lv_at hl 5 rfl) ?_
  refine lv_iconst (v := 3) hx hb (dc tbL_law_20_k 34 rfl) ic_3 ?_
  refine lv_iadd hx hb (dc tbL_law_20_k 35 rfl) ?_
  refine l_sld hx hb hX hbl hbA hI hs.2.2.2.1.1 hs.2.2.2.1.2 (dc tbL_law_20_k 36 rfl) ?_
  refine lv_aload_n hx hb (dc tbL_law_20_k 37 rfl) rfl (lv_at hl 3 rfl) ?_
  obtain ⟨M3, r2, q1, hf⟩ := calh_s hf
  refine l_callH (g_runH hx hb hml hown hts hK hap hsx hnc hI (tL_setTool l hst hk0 hk1 q1 H.size) ch_L_setTool q_t7_11 rfl rfl ⟨Nat.le_of_ble_eq_true rfl, Nat.le_of_ble_eq_true rfl⟩ rfl hl.1 rfl (Nat.le_of_ble_eq_true rfl) (dc tbL_law_20_k 38 rfl) ⟨by have := hc.1; show _ ≤ 601024; omega, by have := hc.2; show _ ≤ 7293034; omega⟩) hI hJ hA hd1 (fun H locs hI hJ => ?_)
  refine lv_istore (lv' := [(6, .int r2), (0, .ref b), (1, .ref (ad 0)), (2, .ref (ad' 135)), (3, .ref (ad 152)), (4, .ref (ad 153)), (5, .int x5)]) hx hb (dc tbL_law_20_k 39 rfl) hl (by decide) rfl (fun ls hl => ?_)
  refine lv_aload_n hx hb (dc tbL_law_21_k 0 rfl) rfl (lv_at hl 3 rfl) ?_
  refine lv_aload_n hx hb (dc tbL_law_21_k 1 rfl) rfl (lv_at hl 1 rfl) ?_
  refine lv_iload hx hb (dc tbL_law_21_k 2 rfl) (lv_at hl 6 rfl) ?_
  refine lv_iconst (v := 1) hx hb (dc tbL_law_21_k 3 rfl) ic_1 ?_
  refine lv_iadd hx hb (dc tbL_law_21_k 4 rfl) ?_
  refine l_sld hx hb hX hbl hbA hI hs.2.1.1 hs.2.1.2 (dc tbL_law_21_k 5 rfl) ?_
  refine lv_aload_n hx hb (dc tbL_law_21_k 6 rfl) rfl (lv_at hl 1 rfl) ?_
  refine lv_iload hx hb (dc tbL_law_21_k 7 rfl) (lv_at hl 6 rfl) ?_
  refine lv_iconst (v := 2) hx hb (dc tbL_law_21_k 8 rfl) ic_2 ?_
  refine lv_iadd hx hb (dc tbL_law_21_k 9 rfl) ?_
  refine l_sld hx hb hX hbl hbA hI hs.2.2.1.1 hs.2.2.1.2 (dc tbL_law_21_k 10 rfl) ?_
  refine lv_aload_n hx hb (dc tbL_law_21_k 11 rfl) rfl (lv_at hl 1 rfl) ?_
  refine lv_iload hx hb (dc tbL_law_21_k 12 rfl) (lv_at hl 6 rfl) ?_
  refine lv_iconst (v := 3) hx hb (dc tbL_law_21_k 13 rfl) ic_3 ?_
  refine lv_iadd hx hb (dc tbL_law_21_k 14 rfl) ?_
  refine l_sld hx hb hX hbl hbA hI hs.2.2.2.1.1 hs.2.2.2.1.2 (dc tbL_law_21_k 15 rfl) ?_
  obtain ⟨N6, r5, q4, hf⟩ := cal_s hf
  refine l_calli (g_runV hx hb hml hown hts hK hap2 hsx2 hJ (tX7_setTool l hk2 q4 H.size) cv_X7_setTool q_t9_212 rfl rfl ⟨Nat.le_of_ble_eq_true rfl, Nat.le_of_ble_eq_true rfl⟩ hk2.1 (by simp) rfl rfl rfl hl.1 rfl (Nat.le_of_ble_eq_true rfl) (dc tbL_law_21_k 16 rfl) ⟨by have := hc.1; show _ ≤ 601024; omega, by have := hc.2; show _ ≤ 7293034; omega⟩) hJ hI hA.symm hd2 (fun H locs hJ hI => ?_)
  refine lv_istore (lv' := [(7, .int r5), (6, .int r2), (0, .ref b), (1, .ref (ad 0)), (2, .ref (ad' 135)), (3, .ref (ad 152)), (4, .ref (ad 153)), (5, .int x5)]) hx hb (dc tbL_law_21_k 17 rfl) hl (by decide) rfl (fun ls hl => ?_)
  refine lv_goto (tgt := 1738) hx hb (dc tbL_law_21_k 18 rfl) rfl ?_
  obtain ⟨h7, hf⟩ := chk_s hf
  cases hf
  refine W.widen (k := cells + 64) (n := slots + 4096) (by omega) (by omega) ?_
  exact hk _ _ _ _ _ C (by rw [of_decide_eq_true h7]; exact hS) hI hJ (lv_sub hl [2, 3, 4, 5, 6, 7] rfl)
def mlc_51 (a1 a2 a3 a4 a5 : Int32) (M N : Mem) : Option (Mem × Mem) := calh (mL_setSheet 0 152 a1 a2 a3 M) (fun M3 r2 => cal (mX7_setSheet 135 a1 a2 a3 N) (fun N6 r5 => chk (decide (rd M3 133 0 = rd M 133 0)) (some (M3, N6))))
set_option maxHeartbeats 4000000 in
set_option maxRecDepth 100000 in
theorem lc_51 (hc : cells + 64 ≤ 601024 ∧ slots + 4096 ≤ 7293034) {x5 a0 a1 a2 a3 a4 a5 : Int32} (hs : Sc xs L x5 a0 a1 a2 a3 a4 a5) {M N M' N' : Mem} (hf : mlc_51 a1 a2 a3 a4 a5 M N = some (M', N')) (hk : AtW p l e s m args below meth c L xs G kd' ad' b x5 M' N' Q (cells + 64) (slots + 4096) 1738) : AtW p l e s m args below meth c L xs G kd' ad' b x5 M N Q cells slots 1580 := by
  intro kd ad H locs ls C hS hI hJ hl
  obtain ⟨hx, hb, hml, hown, hts, hK, hap, hap2, hsx, hsx2, hnc, hst, hA, hd1, hd2, hX, hbl, hbA, hk0, hLo, hk1, hk3, hk2⟩ := id C
  unfold mlc_51 at hf
  refine lv_aload_n hx hb (dc tbL_law_21_k 19 rfl) rfl (lv_at hl 1 rfl) ?_
  refine lv_aload_n hx hb (dc tbL_law_21_k 20 rfl) rfl (lv_at hl 0 rfl) ?_
  refine lv_iload hx hb (dc tbL_law_21_k 21 rfl) (lv_at hl 5 rfl) ?_
  refine lv_iconst (v := 1) hx hb (dc tbL_law_21_k 22 rfl) ic_1 ?_
  refine lv_iadd hx hb (dc tbL_law_21_k 23 rfl) ?_
  refine l_sld hx hb hX hbl hbA hI hs.2.1.1 hs.2.1.2 (dc tbL_law_21_k 24 rfl) ?_
  refine lv_aload_n hx hb (dc tbL_law_21_k 25 rfl) rfl (lv_at hl 0 rfl) ?_
  refine lv_iload hx hb (dc tbL_law_21_k 26 rfl) (lv_at hl 5 rfl) ?_
  refine lv_iconst (v := 2) hx hb (dc tbL_law_21_k 27 rfl) ic_2 ?_
  refine lv_iadd hx hb (dc tbL_law_21_k 28 rfl) ?_
  refine l_sld hx hb hX hbl hbA hI hs.2.2.1.1 hs.2.2.1.2 (dc tbL_law_21_k 29 rfl) ?_
  refine lv_aload_n hx hb (dc tbL_law_21_k 30 rfl) rfl (lv_at hl 0 rfl) ?_
  refine lv_iload hx hb (dc tbL_law_21_k 31 rfl) (lv_at hl 5 rfl) ?_
  refine lv_iconst (v := 3) hx hb (dc tbL_law_21_k 32 rfl) ic_3 ?_
  refine lv_iadd hx hb (dc tbL_law_21_k 33 rfl) ?_
  refine l_sld hx hb hX hbl hbA hI hs.2.2.2.1.1 hs.2.2.2.1.2 (dc tbL_law_21_k 34 rfl) ?_
  refine lv_aload_n hx hb (dc tbL_law_21_k 35 rfl) rfl (lv_at hl 3 rfl) ?_
  obtain ⟨M3, r2, q1, hf⟩ := calh_s hf
  refine l_callH (g_runH hx hb hml hown hts hK hap hsx hnc hI (tL_setSheet l hst hk0 hk1 q1 H.size) ch_L_setSheet q_t7_21 rfl rfl ⟨Nat.le_of_ble_eq_true rfl, Nat.le_of_ble_eq_true rfl⟩ rfl hl.1 rfl (Nat.le_of_ble_eq_true rfl) (dc tbL_law_21_k 36 rfl) ⟨by have := hc.1; show _ ≤ 601024; omega, by have := hc.2; show _ ≤ 7293034; omega⟩) hI hJ hA hd1 (fun H locs hI hJ => ?_)
  refine lv_istore (lv' := [(6, .int r2), (0, .ref b), (1, .ref (ad 0)), (2, .ref (ad' 135)), (3, .ref (ad 152)), (4, .ref (ad 153)), (5, .int x5)]) hx hb (dc tbL_law_21_k 37 rfl) hl (by decide) rfl (fun ls hl => ?_)
  refine lv_aload_n hx hb (dc tbL_law_21_k 38 rfl) rfl (lv_at hl 3 rfl) ?_
  refine lv_aload_n hx hb (dc tbL_law_21_k 39 rfl) rfl (lv_at hl 1 rfl) ?_
  refine lv_iload hx hb (dc tbL_law_22_k 0 rfl) (lv_at hl 6 rfl) ?_
  refine lv_iconst (v := 1) hx hb (dc tbL_law_22_k 1 rfl) ic_1 ?_
  refine lv_iadd hx hb (dc tbL_law_22_k 2 rfl) ?_
  refine l_sld hx hb hX hbl hbA hI hs.2.1.1 hs.2.1.2 (dc tbL_law_22_k 3 rfl) ?_
  refine lv_aload_n hx hb (dc tbL_law_22_k 4 rfl) rfl (lv_at hl 1 rfl) ?_
  refine lv_iload hx hb (dc tbL_law_22_k 5 rfl) (lv_at hl 6 rfl) ?_
  refine lv_iconst (v := 2) hx hb (dc tbL_law_22_k 6 rfl) ic_2 ?_
  refine lv_iadd hx hb (dc tbL_law_22_k 7 rfl) ?_
  refine l_sld hx hb hX hbl hbA hI hs.2.2.1.1 hs.2.2.1.2 (dc tbL_law_22_k 8 rfl) ?_
  refine lv_aload_n hx hb (dc tbL_law_22_k 9 rfl) rfl (lv_at hl 1 rfl) ?_
  refine lv_iload hx hb (dc tbL_law_22_k 10 rfl) (lv_at hl 6 rfl) ?_
  refine lv_iconst (v := 3) hx hb (dc tbL_law_22_k 11 rfl) ic_3 ?_
  refine lv_iadd hx hb (dc tbL_law_22_k 12 rfl) ?_
  refine l_sld hx hb hX hbl hbA hI hs.2.2.2.1.1 hs.2.2.2.1.2 (dc tbL_law_22_k 13 rfl) ?_
  obtain ⟨N6, r5, q4, hf⟩ := cal_s hf
  refine l_calli (g_runV hx hb hml hown hts hK hap2 hsx2 hJ (tX7_setSheet l hk2 q4 H.size) cv_X7_setSheet q_t9_219 rfl rfl ⟨Nat.le_of_ble_eq_true rfl, Nat.le_of_ble_eq_true rfl⟩ hk2.1 (by simp) rfl rfl rfl hl.1 rfl (Nat.le_of_ble_eq_true rfl) (dc tbL_law_22_k 14 rfl) ⟨by have := hc.1; show _ ≤ 601024; omega, by have := hc.2; show _ ≤ 7293034; omega⟩) hJ hI hA.symm hd2 (fun H locs hJ hI => ?_)
  refine lv_istore (lv' := [(7, .int r5), (6, .int r2), (0, .ref b), (1, .ref (ad 0)), (2, .ref (ad' 135)), (3, .ref (ad 152)), (4, .ref (ad 153)), (5, .int x5)]) hx hb (dc tbL_law_22_k 15 rfl) hl (by decide) rfl (fun ls hl => ?_)
  refine lv_goto (tgt := 1738) hx hb (dc tbL_law_22_k 16 rfl) rfl ?_
  obtain ⟨h7, hf⟩ := chk_s hf
  cases hf
  refine W.widen (k := cells + 64) (n := slots + 4096) (by omega) (by omega) ?_
  exact hk _ _ _ _ _ C (by rw [of_decide_eq_true h7]; exact hS) hI hJ (lv_sub hl [2, 3, 4, 5, 6, 7] rfl)
def mlc_52 (a1 a2 a3 a4 a5 : Int32) (M N : Mem) : Option (Mem × Mem) := calh (mL_setCost 0 152 a1 a2 a3 M) (fun M3 r2 => cal (mX7_setCost 135 a1 a2 a3 N) (fun N6 r5 => chk (decide (rd M3 133 0 = rd M 133 0)) (some (M3, N6))))
set_option maxHeartbeats 4000000 in
set_option maxRecDepth 100000 in
theorem lc_52 (hc : cells + 64 ≤ 601024 ∧ slots + 4096 ≤ 7293034) {x5 a0 a1 a2 a3 a4 a5 : Int32} (hs : Sc xs L x5 a0 a1 a2 a3 a4 a5) {M N M' N' : Mem} (hf : mlc_52 a1 a2 a3 a4 a5 M N = some (M', N')) (hk : AtW p l e s m args below meth c L xs G kd' ad' b x5 M' N' Q (cells + 64) (slots + 4096) 1738) : AtW p l e s m args below meth c L xs G kd' ad' b x5 M N Q cells slots 1632 := by
  intro kd ad H locs ls C hS hI hJ hl
  obtain ⟨hx, hb, hml, hown, hts, hK, hap, hap2, hsx, hsx2, hnc, hst, hA, hd1, hd2, hX, hbl, hbA, hk0, hLo, hk1, hk3, hk2⟩ := id C
  unfold mlc_52 at hf
  refine lv_aload_n hx hb (dc tbL_law_22_k 17 rfl) rfl (lv_at hl 1 rfl) ?_
  refine lv_aload_n hx hb (dc tbL_law_22_k 18 rfl) rfl (lv_at hl 0 rfl) ?_
  refine lv_iload hx hb (dc tbL_law_22_k 19 rfl) (lv_at hl 5 rfl) ?_
  refine lv_iconst (v := 1) hx hb (dc tbL_law_22_k 20 rfl) ic_1 ?_
  refine lv_iadd hx hb (dc tbL_law_22_k 21 rfl) ?_
  refine l_sld hx hb hX hbl hbA hI hs.2.1.1 hs.2.1.2 (dc tbL_law_22_k 22 rfl) ?_
  refine lv_aload_n hx hb (dc tbL_law_22_k 23 rfl) rfl (lv_at hl 0 rfl) ?_
  refine lv_iload hx hb (dc tbL_law_22_k 24 rfl) (lv_at hl 5 rfl) ?_
  refine lv_iconst (v := 2) hx hb (dc tbL_law_22_k 25 rfl) ic_2 ?_
  refine lv_iadd hx hb (dc tbL_law_22_k 26 rfl) ?_
  refine l_sld hx hb hX hbl hbA hI hs.2.2.1.1 hs.2.2.1.2 (dc tbL_law_22_k 27 rfl) ?_
  refine lv_aload_n hx hb (dc tbL_law_22_k 28 rfl) rfl (lv_at hl 0 rfl) ?_
  refine lv_iload hx hb (dc tbL_law_22_k 29 rfl) (lv_at hl 5 rfl) ?_
  refine lv_iconst (v := 3) hx hb (dc tbL_law_22_k 30 rfl) ic_3 ?_
  refine lv_iadd hx hb (dc tbL_law_22_k 31 rfl) ?_
  refine l_sld hx hb hX hbl hbA hI hs.2.2.2.1.1 hs.2.2.2.1.2 (dc tbL_law_22_k 32 rfl) ?_
  refine lv_aload_n hx hb (dc tbL_law_22_k 33 rfl) rfl (lv_at hl 3 rfl) ?_
  obtain ⟨M3, r2, q1, hf⟩ := calh_s hf
  refine l_callH (g_runH hx hb hml hown hts hK hap hsx hnc hI (tL_setCost l hst hk0 hk1 q1 H.size) ch_L_setCost q_t7_31 rfl rfl ⟨Nat.le_of_ble_eq_true rfl, Nat.le_of_ble_eq_true rfl⟩ rfl hl.1 rfl (Nat.le_of_ble_eq_true rfl) (dc tbL_law_22_k 34 rfl) ⟨by have := hc.1; show _ ≤ 601024; omega, by have := hc.2; show _ ≤ 7293034; omega⟩) hI hJ hA hd1 (fun H locs hI hJ => ?_)
  refine lv_istore (lv' := [(6, .int r2), (0, .ref b), (1, .ref (ad 0)), (2, .ref (ad' 135)), (3, .ref (ad 152)), (4, .ref (ad 153)), (5, .int x5)]) hx hb (dc tbL_law_22_k 35 rfl) hl (by decide) rfl (fun ls hl => ?_)
  refine lv_aload_n hx hb (dc tbL_law_22_k 36 rfl) rfl (lv_at hl 3 rfl) ?_
  refine lv_aload_n hx hb (dc tbL_law_22_k 37 rfl) rfl (lv_at hl 1 rfl) ?_
  refine lv_iload hx hb (dc tbL_law_22_k 38 rfl) (lv_at hl 6 rfl) ?_
  refine lv_iconst (v := 1) hx hb (dc tbL_law_22_k 39 rfl) ic_1 ?_
  refine lv_iadd hx hb (dc tbL_law_23_k 0 rfl) ?_
  refine l_sld hx hb hX hbl hbA hI hs.2.1.1 hs.2.1.2 (dc tbL_law_23_k 1 rfl) ?_
  refine lv_aload_n hx hb (dc tbL_law_23_k 2 rfl) rfl (lv_at hl 1 rfl) ?_
  refine lv_iload hx hb (dc tbL_law_23_k 3 rfl) (lv_at hl 6 rfl) ?_
  refine lv_iconst (v := 2) hx hb (dc tbL_law_23_k 4 rfl) ic_2 ?_
  refine lv_iadd hx hb (dc tbL_law_23_k 5 rfl) ?_
  refine l_sld hx hb hX hbl hbA hI hs.2.2.1.1 hs.2.2.1.2 (dc tbL_law_23_k 6 rfl) ?_
  refine lv_aload_n hx hb (dc tbL_law_23_k 7 rfl) rfl (lv_at hl 1 rfl) ?_
  refine lv_iload hx hb (dc tbL_law_23_k 8 rfl) (lv_at hl 6 rfl) ?_
  refine lv_iconst (v := 3) hx hb (dc tbL_law_23_k 9 rfl) ic_3 ?_
  refine lv_iadd hx hb (dc tbL_law_23_k 10 rfl) ?_
  refine l_sld hx hb hX hbl hbA hI hs.2.2.2.1.1 hs.2.2.2.1.2 (dc tbL_law_23_k 11 rfl) ?_
  obtain ⟨N6, r5, q4, hf⟩ := cal_s hf
  refine l_calli (g_runV hx hb hml hown hts hK hap2 hsx2 hJ (tX7_setCost l hk2 q4 H.size) cv_X7_setCost q_t9_226 rfl rfl ⟨Nat.le_of_ble_eq_true rfl, Nat.le_of_ble_eq_true rfl⟩ hk2.1 (by simp) rfl rfl rfl hl.1 rfl (Nat.le_of_ble_eq_true rfl) (dc tbL_law_23_k 12 rfl) ⟨by have := hc.1; show _ ≤ 601024; omega, by have := hc.2; show _ ≤ 7293034; omega⟩) hJ hI hA.symm hd2 (fun H locs hJ hI => ?_)
  refine lv_istore (lv' := [(7, .int r5), (6, .int r2), (0, .ref b), (1, .ref (ad 0)), (2, .ref (ad' 135)), (3, .ref (ad 152)), (4, .ref (ad 153)), (5, .int x5)]) hx hb (dc tbL_law_23_k 13 rfl) hl (by decide) rfl (fun ls hl => ?_)
  refine lv_goto (tgt := 1738) hx hb (dc tbL_law_23_k 14 rfl) rfl ?_
  obtain ⟨h7, hf⟩ := chk_s hf
  cases hf
  refine W.widen (k := cells + 64) (n := slots + 4096) (by omega) (by omega) ?_
  exact hk _ _ _ _ _ C (by rw [of_decide_eq_true h7]; exact hS) hI hJ (lv_sub hl [2, 3, 4, 5, 6, 7] rfl)
def mlc_53 (a1 a2 a3 a4 a5 : Int32) (M N : Mem) : Option (Mem × Mem) := cal (mX6_undo 0 M) (fun M3 r2 => cal (mX7_undo 135 N) (fun N6 r5 => chk (decide (rd M3 133 0 = rd M 133 0)) (some (M3, N6))))
set_option maxHeartbeats 4000000 in
set_option maxRecDepth 100000 in
theorem lc_53 (hc : cells + 64 ≤ 601024 ∧ slots + 4096 ≤ 7293034) {x5 a0 a1 a2 a3 a4 a5 : Int32} (hs : Sc xs L x5 a0 a1 a2 a3 a4 a5) {M N M' N' : Mem} (hf : mlc_53 a1 a2 a3 a4 a5 M N = some (M', N')) (hk : AtW p l e s m args below meth c L xs G kd' ad' b x5 M' N' Q (cells + 64) (slots + 4096) 1738) : AtW p l e s m args below meth c L xs G kd' ad' b x5 M N Q cells slots 1684 := by
  intro kd ad H locs ls C hS hI hJ hl
  obtain ⟨hx, hb, hml, hown, hts, hK, hap, hap2, hsx, hsx2, hnc, hst, hA, hd1, hd2, hX, hbl, hbA, hk0, hLo, hk1, hk3, hk2⟩ := id C
  unfold mlc_53 at hf
  refine lv_aload_n hx hb (dc tbL_law_23_k 15 rfl) rfl (lv_at hl 1 rfl) ?_
  obtain ⟨M3, r2, q1, hf⟩ := cal_s hf
  refine l_calli (g_runV hx hb hml hown hts hK hap hsx hI (tX6_undo l hk0 q1 H.size) cv_X6_undo q_t3_197 rfl rfl ⟨Nat.le_of_ble_eq_true rfl, Nat.le_of_ble_eq_true rfl⟩ hk0.1 (by simp) rfl rfl rfl hl.1 rfl (Nat.le_of_ble_eq_true rfl) (dc tbL_law_23_k 16 rfl) ⟨by have := hc.1; show _ ≤ 601024; omega, by have := hc.2; show _ ≤ 7293034; omega⟩) hI hJ hA hd1 (fun H locs hI hJ => ?_)
  refine lv_pop hx hb (dc tbL_law_23_k 17 rfl) rfl ?_
  refine lv_aload_n hx hb (dc tbL_law_23_k 18 rfl) rfl (lv_at hl 2 rfl) ?_
  obtain ⟨N6, r5, q4, hf⟩ := cal_s hf
  refine l_calli (g_runV hx hb hml hown hts hK hap2 hsx2 hJ (tX7_undo l hk2 q4 H.size) cv_X7_undo q_t7_170 rfl rfl ⟨Nat.le_of_ble_eq_true rfl, Nat.le_of_ble_eq_true rfl⟩ hk2.1 (by simp) rfl rfl rfl hl.1 rfl (Nat.le_of_ble_eq_true rfl) (dc tbL_law_23_k 19 rfl) ⟨by have := hc.1; show _ ≤ 601024; omega, by have := hc.2; show _ ≤ 7293034; omega⟩) hJ hI hA.symm hd2 (fun H locs hJ hI => ?_)
  refine lv_pop hx hb (dc tbL_law_23_k 20 rfl) rfl ?_
  refine lv_goto (tgt := 1738) hx hb (dc tbL_law_23_k 21 rfl) rfl ?_
  obtain ⟨h7, hf⟩ := chk_s hf
  cases hf
  refine W.widen (k := cells + 64) (n := slots + 4096) (by omega) (by omega) ?_
  exact hk _ _ _ _ _ C (by rw [of_decide_eq_true h7]; exact hS) hI hJ (lv_sub hl [0, 1, 2, 3, 4, 5] rfl)
def mlc_54 (a1 a2 a3 a4 a5 : Int32) (M N : Mem) : Option (Mem × Mem) := cal (mX6_write 0 M) (fun M3 r2 => cal (mX7_write 135 N) (fun N6 r5 => some (M3, N6)))
set_option maxHeartbeats 4000000 in
set_option maxRecDepth 100000 in
theorem lc_54 (hc : cells + 64 ≤ 601024 ∧ slots + 4096 ≤ 7293034) {x5 a0 a1 a2 a3 a4 a5 : Int32} (hs : Sc xs L x5 a0 a1 a2 a3 a4 a5) {M N M' N' : Mem} (hf : mlc_54 a1 a2 a3 a4 a5 M N = some (M', N')) (hk : AtW p l e s m args below meth c L xs G kd' ad' b x5 M' N' Q (cells + 64) (slots + 4096) 1738) : AtW p l e s m args below meth c L xs G kd' ad' b x5 M N Q cells slots 1697 := by
  intro kd ad H locs ls C hS hI hJ hl
  obtain ⟨hx, hb, hml, hown, hts, hK, hap, hap2, hsx, hsx2, hnc, hst, hA, hd1, hd2, hX, hbl, hbA, hk0, hLo, hk1, hk3, hk2⟩ := id C
  unfold mlc_54 at hf
  refine lv_aload_n hx hb (dc tbL_law_23_k 22 rfl) rfl (lv_at hl 1 rfl) ?_
  obtain ⟨M3, r2, q1, hf⟩ := cal_s hf
  refine l_callR (g_runVR hx hb hml hown hts hK hap hsx hI (tX6_write l hk0 hS hLo q1 H.size) cv_X6_write q_t3_205 rfl rfl ⟨Nat.le_of_ble_eq_true rfl, Nat.le_of_ble_eq_true rfl⟩ hk0.1 (by simp) rfl rfl rfl hl.1 rfl (Nat.le_of_ble_eq_true rfl) (dc tbL_law_23_k 23 rfl) ⟨by have := hc.1; show _ ≤ 601024; omega, by have := hc.2; show _ ≤ 7293034; omega⟩) hI hJ hA hd1 (fun kd1 ad1 H locs hE hL1 hS1 hap1 hdn hI hJ => ?_)
  have f0 : ad1 0 = ad 0 := (hE.1 0 (by rw [hk0.1]; simp)).2
  have f1 : ad1 152 = ad 152 := (hE.1 152 (by rw [hk1]; simp)).2
  have f3 : ad1 153 = ad 153 := (hE.1 153 (by rw [hk3]; simp)).2
  rw [← f0, ← f1, ← f3] at hl
  have C := C.ext hE hL1 hap1 hdn
  have hS := hS1
  obtain ⟨hx, hb, hml, hown, hts, hK, hap, hap2, hsx, hsx2, hnc, hst, hA, hd1, hd2, hX, hbl, hbA, hk0, hLo, hk1, hk3, hk2⟩ := id C
  refine lv_pop hx hb (dc tbL_law_23_k 24 rfl) rfl ?_
  refine lv_aload_n hx hb (dc tbL_law_23_k 25 rfl) rfl (lv_at hl 2 rfl) ?_
  obtain ⟨N6, r5, q4, hf⟩ := cal_s hf
  refine l_calli (g_runV hx hb hml hown hts hK hap2 hsx2 hJ (tX7_write l hk2 q4 H.size) cv_X7_write q_t9_231 rfl rfl ⟨Nat.le_of_ble_eq_true rfl, Nat.le_of_ble_eq_true rfl⟩ hk2.1 (by simp) rfl rfl rfl hl.1 rfl (Nat.le_of_ble_eq_true rfl) (dc tbL_law_23_k 26 rfl) ⟨by have := hc.1; show _ ≤ 601024; omega, by have := hc.2; show _ ≤ 7293034; omega⟩) hJ hI hA.symm hd2 (fun H locs hJ hI => ?_)
  refine lv_pop hx hb (dc tbL_law_23_k 27 rfl) rfl ?_
  refine lv_goto (tgt := 1738) hx hb (dc tbL_law_23_k 28 rfl) rfl ?_
  cases hf
  refine W.widen (k := cells + 64) (n := slots + 4096) (by omega) (by omega) ?_
  exact hk _ _ _ _ _ C hS hI hJ (lv_sub hl [0, 1, 2, 3, 4, 5] rfl)
def mlc_55 (a1 a2 a3 a4 a5 : Int32) (M N : Mem) : Option (Mem × Mem) := calh (mL_written 0 152 a1 M) (fun M3 r2 => cal (mX7_written 135 a1 N) (fun N6 r5 => chk (decide (rd M3 133 0 = rd M 133 0)) (some (M3, N6))))
set_option maxHeartbeats 4000000 in
set_option maxRecDepth 100000 in
theorem lc_55 (hc : cells + 64 ≤ 601024 ∧ slots + 4096 ≤ 7293034) {x5 a0 a1 a2 a3 a4 a5 : Int32} (hs : Sc xs L x5 a0 a1 a2 a3 a4 a5) {M N M' N' : Mem} (hf : mlc_55 a1 a2 a3 a4 a5 M N = some (M', N')) (hk : AtW p l e s m args below meth c L xs G kd' ad' b x5 M' N' Q (cells + 64) (slots + 4096) 1738) : AtW p l e s m args below meth c L xs G kd' ad' b x5 M N Q cells slots 1710 := by
  intro kd ad H locs ls C hS hI hJ hl
  obtain ⟨hx, hb, hml, hown, hts, hK, hap, hap2, hsx, hsx2, hnc, hst, hA, hd1, hd2, hX, hbl, hbA, hk0, hLo, hk1, hk3, hk2⟩ := id C
  unfold mlc_55 at hf
  refine lv_aload_n hx hb (dc tbL_law_23_k 29 rfl) rfl (lv_at hl 1 rfl) ?_
  refine lv_aload_n hx hb (dc tbL_law_23_k 30 rfl) rfl (lv_at hl 0 rfl) ?_
  refine lv_iload hx hb (dc tbL_law_23_k 31 rfl) (lv_at hl 5 rfl) ?_
  refine lv_iconst (v := 1) hx hb (dc tbL_law_23_k 32 rfl) ic_1 ?_
  refine lv_iadd hx hb (dc tbL_law_23_k 33 rfl) ?_
  refine l_sld hx hb hX hbl hbA hI hs.2.1.1 hs.2.1.2 (dc tbL_law_23_k 34 rfl) ?_
  refine lv_aload_n hx hb (dc tbL_law_23_k 35 rfl) rfl (lv_at hl 3 rfl) ?_
  obtain ⟨M3, r2, q1, hf⟩ := calh_s hf
  refine l_callH (g_runH hx hb hml hown hts hK hap hsx hnc hI (tL_written l hst hk0 hk1 hS q1 H.size) ch_L_written q_t7_41 rfl rfl ⟨Nat.le_of_ble_eq_true rfl, Nat.le_of_ble_eq_true rfl⟩ rfl hl.1 rfl (Nat.le_of_ble_eq_true rfl) (dc tbL_law_23_k 36 rfl) ⟨by have := hc.1; show _ ≤ 601024; omega, by have := hc.2; show _ ≤ 7293034; omega⟩) hI hJ hA hd1 (fun H locs hI hJ => ?_)
  refine lv_istore (lv' := [(6, .int r2), (0, .ref b), (1, .ref (ad 0)), (2, .ref (ad' 135)), (3, .ref (ad 152)), (4, .ref (ad 153)), (5, .int x5)]) hx hb (dc tbL_law_23_k 37 rfl) hl (by decide) rfl (fun ls hl => ?_)
  refine lv_aload_n hx hb (dc tbL_law_23_k 38 rfl) rfl (lv_at hl 3 rfl) ?_
  refine lv_aload_n hx hb (dc tbL_law_23_k 39 rfl) rfl (lv_at hl 1 rfl) ?_
  refine lv_iload hx hb (dc tbL_law_24_k 0 rfl) (lv_at hl 6 rfl) ?_
  refine lv_iconst (v := 1) hx hb (dc tbL_law_24_k 1 rfl) ic_1 ?_
  refine lv_iadd hx hb (dc tbL_law_24_k 2 rfl) ?_
  refine l_sld hx hb hX hbl hbA hI hs.2.1.1 hs.2.1.2 (dc tbL_law_24_k 3 rfl) ?_
  obtain ⟨N6, r5, q4, hf⟩ := cal_s hf
  refine l_calli (g_runV hx hb hml hown hts hK hap2 hsx2 hJ (tX7_written l hk2 q4 H.size) cv_X7_written q_t10_12 rfl rfl ⟨Nat.le_of_ble_eq_true rfl, Nat.le_of_ble_eq_true rfl⟩ hk2.1 (by simp) rfl rfl rfl hl.1 rfl (Nat.le_of_ble_eq_true rfl) (dc tbL_law_24_k 4 rfl) ⟨by have := hc.1; show _ ≤ 601024; omega, by have := hc.2; show _ ≤ 7293034; omega⟩) hJ hI hA.symm hd2 (fun H locs hJ hI => ?_)
  refine lv_istore (lv' := [(7, .int r5), (6, .int r2), (0, .ref b), (1, .ref (ad 0)), (2, .ref (ad' 135)), (3, .ref (ad 152)), (4, .ref (ad 153)), (5, .int x5)]) hx hb (dc tbL_law_24_k 5 rfl) hl (by decide) rfl (fun ls hl => ?_)
  refine lv_goto (tgt := 1738) hx hb (dc tbL_law_24_k 6 rfl) rfl ?_
  obtain ⟨h7, hf⟩ := chk_s hf
  cases hf
  refine W.widen (k := cells + 64) (n := slots + 4096) (by omega) (by omega) ?_
  exact hk _ _ _ _ _ C (by rw [of_decide_eq_true h7]; exact hS) hI hJ (lv_sub hl [2, 3, 4, 5, 6, 7] rfl)
end LC
