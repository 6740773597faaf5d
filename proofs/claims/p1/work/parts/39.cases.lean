section LC
variable {p : Program} {l : Launch} {e : Env} {s : State} {m : MethodId} {args : Array Value} {below : List Frame} {meth : Method} {c : Code} {b L : Nat} {xs : Nat → Int32} {G : GT} {kd kd' : Nat → Nat × Nat} {ad : Nat → Nat} {cells slots : Nat} {Q : State → Prop}
/-- the law stands at pc, its locals as at the loop's head -/
def AtW (p : Program) (l : Launch) (e : Env) (s : State) (m : MethodId) (args : Array Value) (below : List Frame) (meth : Method) (c : Code) (G : GT) (kd kd' : Nat → Nat × Nat) (ad : Nat → Nat) (b : Nat) (i : Int32) (M N : Mem) (Q : State → Prop) (cells slots pc : Nat) : Prop :=
  ∀ (H : Heap) (locs : List Loc) (ls : Array Slot), Inv G kd ad s.heap M H locs → Inv G kd' ad s.heap N H locs → lv_has ls 10 [(0, .ref b), (1, .ref (ad 0)), (2, .ref (ad 135)), (3, .ref (ad 152)), (4, .ref (ad 153)), (5, .int i)] → W p l e room_1 s m args below meth c H locs cells slots Q (F0 m pc ls [])
def mlc_0 (a1 a2 a3 a4 a5 : Int32) (M N : Mem) : Option (Mem × Mem) := cal (mX6_feed 0 a1 a2 a3 a4 a5 M) (fun M3 r2 => cal (mX7_feed 135 a1 a2 a3 a4 a5 N) (fun N6 r5 => ite2 (r2 = r5) (some (M3, N6)) (none)))
set_option maxHeartbeats 4000000 in
set_option maxRecDepth 100000 in
theorem lc_0 (C : Lx p l s m args meth c b L xs G kd kd' ad) (hc : cells + 64 ≤ 600002 ∧ slots + 512 ≤ 7302232) {x5 a0 a1 a2 a3 a4 a5 : Int32} (hs : Sc xs L x5 a0 a1 a2 a3 a4 a5) {M N M' N' : Mem} (hf : mlc_0 a1 a2 a3 a4 a5 M N = some (M', N')) (hk : AtW p l e s m args below meth c G kd kd' ad b x5 M' N' Q (cells + 64) (slots + 512) 2624) : AtW p l e s m args below meth c G kd kd' ad b x5 M N Q cells slots 284 := by
  intro H locs ls hI hJ hl
  obtain ⟨hx, hb, hml, hown, hts, hK, hap, hap2, hsx, hsx2, hnc, hst, hA, hd1, hd2, hX, hbl, hbA, hk0, hS, hk1, hk3, hk2⟩ := id C
  unfold mlc_0 at hf
  refine lv_aload_n hx hb (dc tbL_law_0_k 25 rfl) rfl (lv_at hl 1 rfl) ?_
  refine lv_aload_n hx hb (dc tbL_law_0_k 26 rfl) rfl (lv_at hl 0 rfl) ?_
  refine lv_iload hx hb (dc tbL_law_0_k 27 rfl) (lv_at hl 5 rfl) ?_
  refine lv_iconst (v := 1) hx hb (dc tbL_law_0_k 28 rfl) ic_1 ?_
  refine lv_iadd hx hb (dc tbL_law_0_k 29 rfl) ?_
  refine l_sld hx hb hX hbl hbA hI hs.2.1.1 hs.2.1.2 (dc tbL_law_0_k 30 rfl) ?_
  refine lv_aload_n hx hb (dc tbL_law_0_k 31 rfl) rfl (lv_at hl 0 rfl) ?_
  refine lv_iload hx hb (dc tbL_law_0_k 32 rfl) (lv_at hl 5 rfl) ?_
  refine lv_iconst (v := 2) hx hb (dc tbL_law_0_k 33 rfl) ic_2 ?_
  refine lv_iadd hx hb (dc tbL_law_0_k 34 rfl) ?_
  refine l_sld hx hb hX hbl hbA hI hs.2.2.1.1 hs.2.2.1.2 (dc tbL_law_0_k 35 rfl) ?_
  refine lv_aload_n hx hb (dc tbL_law_0_k 36 rfl) rfl (lv_at hl 0 rfl) ?_
  refine lv_iload hx hb (dc tbL_law_0_k 37 rfl) (lv_at hl 5 rfl) ?_
  refine lv_iconst (v := 3) hx hb (dc tbL_law_0_k 38 rfl) ic_3 ?_
  refine lv_iadd hx hb (dc tbL_law_0_k 39 rfl) ?_
  refine l_sld hx hb hX hbl hbA hI hs.2.2.2.1.1 hs.2.2.2.1.2 (dc tbL_law_1_k 0 rfl) ?_
  refine lv_aload_n hx hb (dc tbL_law_1_k 1 rfl) rfl (lv_at hl 0 rfl) ?_
  refine lv_iload hx hb (dc tbL_law_1_k 2 rfl) (lv_at hl 5 rfl) ?_
  refine lv_iconst (v := 4) hx hb (dc tbL_law_1_k 3 rfl) ic_4 ?_
  refine lv_iadd hx hb (dc tbL_law_1_k 4 rfl) ?_
  refine l_sld hx hb hX hbl hbA hI hs.2.2.2.2.1.1 hs.2.2.2.2.1.2 (dc tbL_law_1_k 5 rfl) ?_
  refine lv_aload_n hx hb (dc tbL_law_1_k 6 rfl) rfl (lv_at hl 0 rfl) ?_
  refine lv_iload hx hb (dc tbL_law_1_k 7 rfl) (lv_at hl 5 rfl) ?_
  refine lv_iconst (v := 5) hx hb (dc tbL_law_1_k 8 rfl) ic_5 ?_
  refine lv_iadd hx hb (dc tbL_law_1_k 9 rfl) ?_
  refine l_sld hx hb hX hbl hbA hI hs.2.2.2.2.2.1 hs.2.2.2.2.2.2 (dc tbL_law_1_k 10 rfl) ?_
  obtain ⟨M3, r2, q1, hf⟩ := cal_s hf
  refine l_calli (g_runV hx hb hml hown hts hK hap hsx hI (tX6_feed l hk0 q1 H.size) cv_X6_feed q_t2_110 rfl rfl ⟨Nat.le_of_ble_eq_true rfl, Nat.le_of_ble_eq_true rfl⟩ hk0.1 (by simp) rfl rfl rfl hl.1 rfl (Nat.le_of_ble_eq_true rfl) (dc tbL_law_1_k 11 rfl) ⟨by have := hc.1; show _ ≤ 600002; omega, by have := hc.2; show _ ≤ 7302232; omega⟩) hI hJ hA hd1 (fun H locs hI hJ => ?_)
  refine lv_aload_n hx hb (dc tbL_law_1_k 12 rfl) rfl (lv_at hl 2 rfl) ?_
  refine lv_aload_n hx hb (dc tbL_law_1_k 13 rfl) rfl (lv_at hl 0 rfl) ?_
  refine lv_iload hx hb (dc tbL_law_1_k 14 rfl) (lv_at hl 5 rfl) ?_
  refine lv_iconst (v := 1) hx hb (dc tbL_law_1_k 15 rfl) ic_1 ?_
  refine lv_iadd hx hb (dc tbL_law_1_k 16 rfl) ?_
  refine l_sld hx hb hX hbl hbA hI hs.2.1.1 hs.2.1.2 (dc tbL_law_1_k 17 rfl) ?_
  refine lv_aload_n hx hb (dc tbL_law_1_k 18 rfl) rfl (lv_at hl 0 rfl) ?_
  refine lv_iload hx hb (dc tbL_law_1_k 19 rfl) (lv_at hl 5 rfl) ?_
  refine lv_iconst (v := 2) hx hb (dc tbL_law_1_k 20 rfl) ic_2 ?_
  refine lv_iadd hx hb (dc tbL_law_1_k 21 rfl) ?_
  refine l_sld hx hb hX hbl hbA hI hs.2.2.1.1 hs.2.2.1.2 (dc tbL_law_1_k 22 rfl) ?_
  refine lv_aload_n hx hb (dc tbL_law_1_k 23 rfl) rfl (lv_at hl 0 rfl) ?_
  refine lv_iload hx hb (dc tbL_law_1_k 24 rfl) (lv_at hl 5 rfl) ?_
  refine lv_iconst (v := 3) hx hb (dc tbL_law_1_k 25 rfl) ic_3 ?_
  refine lv_iadd hx hb (dc tbL_law_1_k 26 rfl) ?_
  refine l_sld hx hb hX hbl hbA hI hs.2.2.2.1.1 hs.2.2.2.1.2 (dc tbL_law_1_k 27 rfl) ?_
  refine lv_aload_n hx hb (dc tbL_law_1_k 28 rfl) rfl (lv_at hl 0 rfl) ?_
  refine lv_iload hx hb (dc tbL_law_1_k 29 rfl) (lv_at hl 5 rfl) ?_
  refine lv_iconst (v := 4) hx hb (dc tbL_law_1_k 30 rfl) ic_4 ?_
  refine lv_iadd hx hb (dc tbL_law_1_k 31 rfl) ?_
  refine l_sld hx hb hX hbl hbA hI hs.2.2.2.2.1.1 hs.2.2.2.2.1.2 (dc tbL_law_1_k 32 rfl) ?_
  refine lv_aload_n hx hb (dc tbL_law_1_k 33 rfl) rfl (lv_at hl 0 rfl) ?_
  refine lv_iload hx hb (dc tbL_law_1_k 34 rfl) (lv_at hl 5 rfl) ?_
  refine lv_iconst (v := 5) hx hb (dc tbL_law_1_k 35 rfl) ic_5 ?_
  refine lv_iadd hx hb (dc tbL_law_1_k 36 rfl) ?_
  refine l_sld hx hb hX hbl hbA hI hs.2.2.2.2.2.1 hs.2.2.2.2.2.2 (dc tbL_law_1_k 37 rfl) ?_
  obtain ⟨N6, r5, q4, hf⟩ := cal_s hf
  refine l_calli (g_runV hx hb hml hown hts hK hap2 hsx2 hJ (tX7_feed l hk2 q4 H.size) cv_X7_feed q_t7_178 rfl rfl ⟨Nat.le_of_ble_eq_true rfl, Nat.le_of_ble_eq_true rfl⟩ hk2.1 (by simp) rfl rfl rfl hl.1 rfl (Nat.le_of_ble_eq_true rfl) (dc tbL_law_1_k 38 rfl) ⟨by have := hc.1; show _ ≤ 600002; omega, by have := hc.2; show _ ≤ 7302232; omega⟩) hJ hI hA.symm hd2 (fun H locs hJ hI => ?_)
  refine lv_icmp_eq (tgt := 2624) hx hb (dc tbL_law_1_k 39 rfl) rfl (fun c7 => ?_) (fun c7 => ?_)
  · have hf := ite_t c7 hf
    cases hf
    refine W.widen (k := cells + 64) (n := slots + 512) (by omega) (by omega) ?_
    exact hk _ _ _ hI hJ (lv_sub hl [0, 1, 2, 3, 4, 5] rfl)
  · have hf := ite_f c7 hf
    refine lv_iconst (v := 0) hx hb (dc tbL_law_2_k 0 rfl) ic_0 ?_
    cases hf
def mlc_1 (a1 a2 a3 a4 a5 : Int32) (M N : Mem) : Option (Mem × Mem) := calh (mL_load 0 152 a1 M) (fun M3 r2 => cal (mX7_load 135 a1 N) (fun N6 r5 => cap (mX7_thrown 135 N6) (fun r8 => ite2 (r8 = r2) (ite2 (r2 = 0) (chk (okb (0 : Int32) 1) (ite2 ((lg_cmp (rl M3 152 ((0 : Int32)).toNatClampNeg) (r5).toInt64) = 0) (some (M3, N6)) (none))) (some (M3, N6))) (none))))
set_option maxHeartbeats 4000000 in
set_option maxRecDepth 100000 in
theorem lc_1 (C : Lx p l s m args meth c b L xs G kd kd' ad) (hc : cells + 64 ≤ 600002 ∧ slots + 512 ≤ 7302232) {x5 a0 a1 a2 a3 a4 a5 : Int32} (hs : Sc xs L x5 a0 a1 a2 a3 a4 a5) {M N M' N' : Mem} (hf : mlc_1 a1 a2 a3 a4 a5 M N = some (M', N')) (hk : AtW p l e s m args below meth c G kd kd' ad b x5 M' N' Q (cells + 64) (slots + 512) 2624) : AtW p l e s m args below meth c G kd kd' ad b x5 M N Q cells slots 357 := by
  intro H locs ls hI hJ hl
  obtain ⟨hx, hb, hml, hown, hts, hK, hap, hap2, hsx, hsx2, hnc, hst, hA, hd1, hd2, hX, hbl, hbA, hk0, hS, hk1, hk3, hk2⟩ := id C
  unfold mlc_1 at hf
  refine lv_aload_n hx hb (dc tbL_law_2_k 2 rfl) rfl (lv_at hl 1 rfl) ?_
  refine lv_aload_n hx hb (dc tbL_law_2_k 3 rfl) rfl (lv_at hl 0 rfl) ?_
  refine lv_iload hx hb (dc tbL_law_2_k 4 rfl) (lv_at hl 5 rfl) ?_
  refine lv_iconst (v := 1) hx hb (dc tbL_law_2_k 5 rfl) ic_1 ?_
  refine lv_iadd hx hb (dc tbL_law_2_k 6 rfl) ?_
  refine l_sld hx hb hX hbl hbA hI hs.2.1.1 hs.2.1.2 (dc tbL_law_2_k 7 rfl) ?_
  refine lv_aload_n hx hb (dc tbL_law_2_k 8 rfl) rfl (lv_at hl 3 rfl) ?_
  obtain ⟨M3, r2, q1, hf⟩ := calh_s hf
  refine l_callH (g_runH hx hb hml hown hts hK hap hsx hnc hI (tL_load l hst hk0 hk1 q1 H.size) ch_L_load q_t5_98 rfl rfl ⟨Nat.le_of_ble_eq_true rfl, Nat.le_of_ble_eq_true rfl⟩ rfl hl.1 rfl (Nat.le_of_ble_eq_true rfl) (dc tbL_law_2_k 9 rfl) ⟨by have := hc.1; show _ ≤ 600002; omega, by have := hc.2; show _ ≤ 7302232; omega⟩) hI hJ hA hd1 (fun H locs hI hJ => ?_)
  refine lv_istore (lv' := [(6, .int r2), (0, .ref b), (1, .ref (ad 0)), (2, .ref (ad 135)), (3, .ref (ad 152)), (4, .ref (ad 153)), (5, .int x5)]) hx hb (dc tbL_law_2_k 10 rfl) hl (by decide) rfl (fun ls hl => ?_)
  refine lv_aload_n hx hb (dc tbL_law_2_k 11 rfl) rfl (lv_at hl 3 rfl) ?_
  refine lv_aload_n hx hb (dc tbL_law_2_k 12 rfl) rfl (lv_at hl 1 rfl) ?_
  refine lv_iload hx hb (dc tbL_law_2_k 13 rfl) (lv_at hl 6 rfl) ?_
  refine lv_iconst (v := 1) hx hb (dc tbL_law_2_k 14 rfl) ic_1 ?_
  refine lv_iadd hx hb (dc tbL_law_2_k 15 rfl) ?_
  refine l_sld hx hb hX hbl hbA hI hs.2.1.1 hs.2.1.2 (dc tbL_law_2_k 16 rfl) ?_
  obtain ⟨N6, r5, q4, hf⟩ := cal_s hf
  refine l_calli (g_runV hx hb hml hown hts hK hap2 hsx2 hJ (tX7_load l hk2 q4 H.size) cv_X7_load q_t7_186 rfl rfl ⟨Nat.le_of_ble_eq_true rfl, Nat.le_of_ble_eq_true rfl⟩ hk2.1 (by simp) rfl rfl rfl hl.1 rfl (Nat.le_of_ble_eq_true rfl) (dc tbL_law_2_k 17 rfl) ⟨by have := hc.1; show _ ≤ 600002; omega, by have := hc.2; show _ ≤ 7302232; omega⟩) hJ hI hA.symm hd2 (fun H locs hJ hI => ?_)
  refine lv_istore (lv' := [(7, .int r5), (6, .int r2), (0, .ref b), (1, .ref (ad 0)), (2, .ref (ad 135)), (3, .ref (ad 152)), (4, .ref (ad 153)), (5, .int x5)]) hx hb (dc tbL_law_2_k 18 rfl) hl (by decide) rfl (fun ls hl => ?_)
  refine lv_aload_n hx hb (dc tbL_law_2_k 19 rfl) rfl (lv_at hl 4 rfl) ?_
  obtain ⟨r8, q7, hf⟩ := cap_s hf
  refine l_calli (g_runV hx hb hml hown hts hK hap2 hsx2 hJ (tX7_thrown l hk2 q7 H.size) cv_X7_thrown q_t7_170 rfl rfl ⟨Nat.le_of_ble_eq_true rfl, Nat.le_of_ble_eq_true rfl⟩ hk2.1 (by simp) rfl rfl rfl hl.1 rfl (Nat.le_of_ble_eq_true rfl) (dc tbL_law_2_k 20 rfl) ⟨by have := hc.1; show _ ≤ 600002; omega, by have := hc.2; show _ ≤ 7302232; omega⟩) hJ hI hA.symm hd2 (fun H locs hJ hI => ?_)
  refine lv_iload hx hb (dc tbL_law_2_k 21 rfl) (lv_at hl 1 rfl) ?_
  refine lv_icmp_eq (tgt := 393) hx hb (dc tbL_law_2_k 22 rfl) rfl (fun c10 => ?_) (fun c10 => ?_)
  · have hf := ite_t c10 hf
    refine lv_iload hx hb (dc tbL_law_2_k 25 rfl) (lv_at hl 1 rfl) ?_
    refine lv_if_ne (tgt := 410) hx hb (dc tbL_law_2_k 26 rfl) rfl (fun c11 => ?_) (fun c11 => ?_)
    · have hf := ite_f c11 hf
      refine lv_goto (tgt := 2624) hx hb (dc tbL_law_2_k 36 rfl) rfl ?_
      cases hf
      refine W.widen (k := cells + 64) (n := slots + 512) (by omega) (by omega) ?_
      exact hk _ _ _ hI hJ (lv_sub hl [2, 3, 4, 5, 6, 7] rfl)
    · have hf := ite_t c11 hf
      refine lv_aload_n hx hb (dc tbL_law_2_k 27 rfl) rfl (lv_at hl 5 rfl) ?_
      refine lv_iconst (v := 0) hx hb (dc tbL_law_2_k 28 rfl) ic_0 ?_
      obtain ⟨h12, hf⟩ := chk_s hf
      refine g_lald hx hb hK hI hk1 (okb_in h12) (dc tbL_law_2_k 29 rfl) ?_
      refine lv_iload hx hb (dc tbL_law_2_k 30 rfl) (lv_at hl 0 rfl) ?_
      refine lv_i2l hx hb (dc tbL_law_2_k 31 rfl) rfl ?_
      refine W.lcmp hx hb (dc tbL_law_2_k 32 rfl) ?_
      refine lv_if_eq (tgt := 410) hx hb (dc tbL_law_2_k 33 rfl) rfl (fun c13 => ?_) (fun c13 => ?_)
      · have hf := ite_t c13 hf
        refine lv_goto (tgt := 2624) hx hb (dc tbL_law_2_k 36 rfl) rfl ?_
        cases hf
        refine W.widen (k := cells + 64) (n := slots + 512) (by omega) (by omega) ?_
        exact hk _ _ _ hI hJ (lv_sub hl [2, 3, 4, 5, 6, 7] rfl)
      · have hf := ite_f c13 hf
        refine lv_iconst (v := 0) hx hb (dc tbL_law_2_k 34 rfl) ic_0 ?_
        cases hf
  · have hf := ite_f c10 hf
    refine lv_iconst (v := 0) hx hb (dc tbL_law_2_k 23 rfl) ic_0 ?_
    cases hf
def mlc_2 (a1 a2 a3 a4 a5 : Int32) (M N : Mem) : Option (Mem × Mem) := cap (mX6_errorKind 0 M) (fun r2 => cal (mX7_errorKind 135 N) (fun N6 r5 => ite2 (r2 = r5) (some (M, N6)) (none)))
set_option maxHeartbeats 4000000 in
set_option maxRecDepth 100000 in
theorem lc_2 (C : Lx p l s m args meth c b L xs G kd kd' ad) (hc : cells + 64 ≤ 600002 ∧ slots + 512 ≤ 7302232) {x5 a0 a1 a2 a3 a4 a5 : Int32} (hs : Sc xs L x5 a0 a1 a2 a3 a4 a5) {M N M' N' : Mem} (hf : mlc_2 a1 a2 a3 a4 a5 M N = some (M', N')) (hk : AtW p l e s m args below meth c G kd kd' ad b x5 M' N' Q (cells + 64) (slots + 512) 2624) : AtW p l e s m args below meth c G kd kd' ad b x5 M N Q cells slots 413 := by
  intro H locs ls hI hJ hl
  obtain ⟨hx, hb, hml, hown, hts, hK, hap, hap2, hsx, hsx2, hnc, hst, hA, hd1, hd2, hX, hbl, hbA, hk0, hS, hk1, hk3, hk2⟩ := id C
  unfold mlc_2 at hf
  refine lv_aload_n hx hb (dc tbL_law_2_k 37 rfl) rfl (lv_at hl 1 rfl) ?_
  obtain ⟨r2, q1, hf⟩ := cap_s hf
  refine l_calli (g_runV hx hb hml hown hts hK hap hsx hI (tX6_errorKind l hk0 q1 H.size) cv_X6_errorKind q_t2_118 rfl rfl ⟨Nat.le_of_ble_eq_true rfl, Nat.le_of_ble_eq_true rfl⟩ hk0.1 (by simp) rfl rfl rfl hl.1 rfl (Nat.le_of_ble_eq_true rfl) (dc tbL_law_2_k 38 rfl) ⟨by have := hc.1; show _ ≤ 600002; omega, by have := hc.2; show _ ≤ 7302232; omega⟩) hI hJ hA hd1 (fun H locs hI hJ => ?_)
  refine lv_aload_n hx hb (dc tbL_law_2_k 39 rfl) rfl (lv_at hl 2 rfl) ?_
  obtain ⟨N6, r5, q4, hf⟩ := cal_s hf
  refine l_calli (g_runV hx hb hml hown hts hK hap2 hsx2 hJ (tX7_errorKind l hk2 q4 H.size) cv_X7_errorKind q_t8_28 rfl rfl ⟨Nat.le_of_ble_eq_true rfl, Nat.le_of_ble_eq_true rfl⟩ hk2.1 (by simp) rfl rfl rfl hl.1 rfl (Nat.le_of_ble_eq_true rfl) (dc tbL_law_3_k 0 rfl) ⟨by have := hc.1; show _ ≤ 600002; omega, by have := hc.2; show _ ≤ 7302232; omega⟩) hJ hI hA.symm hd2 (fun H locs hJ hI => ?_)
  refine lv_icmp_eq (tgt := 2624) hx hb (dc tbL_law_3_k 1 rfl) rfl (fun c7 => ?_) (fun c7 => ?_)
  · have hf := ite_t c7 hf
    cases hf
    refine W.widen (k := cells + 64) (n := slots + 512) (by omega) (by omega) ?_
    exact hk _ _ _ hI hJ (lv_sub hl [0, 1, 2, 3, 4, 5] rfl)
  · have hf := ite_f c7 hf
    refine lv_iconst (v := 0) hx hb (dc tbL_law_3_k 2 rfl) ic_0 ?_
    cases hf
def mlc_3 (a1 a2 a3 a4 a5 : Int32) (M N : Mem) : Option (Mem × Mem) := cap (mX6_errorPosition 0 M) (fun r2 => cal (mX7_errorPosition 135 N) (fun N6 r5 => ite2 (r2 = r5) (some (M, N6)) (none)))
set_option maxHeartbeats 4000000 in
set_option maxRecDepth 100000 in
theorem lc_3 (C : Lx p l s m args meth c b L xs G kd kd' ad) (hc : cells + 64 ≤ 600002 ∧ slots + 512 ≤ 7302232) {x5 a0 a1 a2 a3 a4 a5 : Int32} (hs : Sc xs L x5 a0 a1 a2 a3 a4 a5) {M N M' N' : Mem} (hf : mlc_3 a1 a2 a3 a4 a5 M N = some (M', N')) (hk : AtW p l e s m args below meth c G kd kd' ad b x5 M' N' Q (cells + 64) (slots + 512) 2624) : AtW p l e s m args below meth c G kd kd' ad b x5 M N Q cells slots 426 := by
  intro H locs ls hI hJ hl
  obtain ⟨hx, hb, hml, hown, hts, hK, hap, hap2, hsx, hsx2, hnc, hst, hA, hd1, hd2, hX, hbl, hbA, hk0, hS, hk1, hk3, hk2⟩ := id C
  unfold mlc_3 at hf
  refine lv_aload_n hx hb (dc tbL_law_3_k 4 rfl) rfl (lv_at hl 1 rfl) ?_
  obtain ⟨r2, q1, hf⟩ := cap_s hf
  refine l_calli (g_runV hx hb hml hown hts hK hap hsx hI (tX6_errorPosition l hk0 q1 H.size) cv_X6_errorPosition q_t2_122 rfl rfl ⟨Nat.le_of_ble_eq_true rfl, Nat.le_of_ble_eq_true rfl⟩ hk0.1 (by simp) rfl rfl rfl hl.1 rfl (Nat.le_of_ble_eq_true rfl) (dc tbL_law_3_k 5 rfl) ⟨by have := hc.1; show _ ≤ 600002; omega, by have := hc.2; show _ ≤ 7302232; omega⟩) hI hJ hA hd1 (fun H locs hI hJ => ?_)
  refine lv_aload_n hx hb (dc tbL_law_3_k 6 rfl) rfl (lv_at hl 2 rfl) ?_
  obtain ⟨N6, r5, q4, hf⟩ := cal_s hf
  refine l_calli (g_runV hx hb hml hown hts hK hap2 hsx2 hJ (tX7_errorPosition l hk2 q4 H.size) cv_X7_errorPosition q_t8_32 rfl rfl ⟨Nat.le_of_ble_eq_true rfl, Nat.le_of_ble_eq_true rfl⟩ hk2.1 (by simp) rfl rfl rfl hl.1 rfl (Nat.le_of_ble_eq_true rfl) (dc tbL_law_3_k 7 rfl) ⟨by have := hc.1; show _ ≤ 600002; omega, by have := hc.2; show _ ≤ 7302232; omega⟩) hJ hI hA.symm hd2 (fun H locs hJ hI => ?_)
  refine lv_icmp_eq (tgt := 2624) hx hb (dc tbL_law_3_k 8 rfl) rfl (fun c7 => ?_) (fun c7 => ?_)
  · have hf := ite_t c7 hf
    cases hf
    refine W.widen (k := cells + 64) (n := slots + 512) (by omega) (by omega) ?_
    exact hk _ _ _ hI hJ (lv_sub hl [0, 1, 2, 3, 4, 5] rfl)
  · have hf := ite_f c7 hf
    refine lv_iconst (v := 0) hx hb (dc tbL_law_3_k 9 rfl) ic_0 ?_
    cases hf
def mlc_4 (a1 a2 a3 a4 a5 : Int32) (M N : Mem) : Option (Mem × Mem) := cap (mX6_bends 0 M) (fun r2 => cal (mX7_bends 135 N) (fun N6 r5 => ite2 (r2 = r5) (some (M, N6)) (none)))
set_option maxHeartbeats 4000000 in
set_option maxRecDepth 100000 in
theorem lc_4 (C : Lx p l s m args meth c b L xs G kd kd' ad) (hc : cells + 64 ≤ 600002 ∧ slots + 512 ≤ 7302232) {x5 a0 a1 a2 a3 a4 a5 : Int32} (hs : Sc xs L x5 a0 a1 a2 a3 a4 a5) {M N M' N' : Mem} (hf : mlc_4 a1 a2 a3 a4 a5 M N = some (M', N')) (hk : AtW p l e s m args below meth c G kd kd' ad b x5 M' N' Q (cells + 64) (slots + 512) 2624) : AtW p l e s m args below meth c G kd kd' ad b x5 M N Q cells slots 439 := by
  intro H locs ls hI hJ hl
  obtain ⟨hx, hb, hml, hown, hts, hK, hap, hap2, hsx, hsx2, hnc, hst, hA, hd1, hd2, hX, hbl, hbA, hk0, hS, hk1, hk3, hk2⟩ := id C
  unfold mlc_4 at hf
  refine lv_aload_n hx hb (dc tbL_law_3_k 11 rfl) rfl (lv_at hl 1 rfl) ?_
  obtain ⟨r2, q1, hf⟩ := cap_s hf
  refine l_calli (g_runV hx hb hml hown hts hK hap hsx hI (tX6_bends l hk0 q1 H.size) cv_X6_bends q_t2_126 rfl rfl ⟨Nat.le_of_ble_eq_true rfl, Nat.le_of_ble_eq_true rfl⟩ hk0.1 (by simp) rfl rfl rfl hl.1 rfl (Nat.le_of_ble_eq_true rfl) (dc tbL_law_3_k 12 rfl) ⟨by have := hc.1; show _ ≤ 600002; omega, by have := hc.2; show _ ≤ 7302232; omega⟩) hI hJ hA hd1 (fun H locs hI hJ => ?_)
  refine lv_aload_n hx hb (dc tbL_law_3_k 13 rfl) rfl (lv_at hl 2 rfl) ?_
  obtain ⟨N6, r5, q4, hf⟩ := cal_s hf
  refine l_calli (g_runV hx hb hml hown hts hK hap2 hsx2 hJ (tX7_bends l hk2 q4 H.size) cv_X7_bends q_t8_36 rfl rfl ⟨Nat.le_of_ble_eq_true rfl, Nat.le_of_ble_eq_true rfl⟩ hk2.1 (by simp) rfl rfl rfl hl.1 rfl (Nat.le_of_ble_eq_true rfl) (dc tbL_law_3_k 14 rfl) ⟨by have := hc.1; show _ ≤ 600002; omega, by have := hc.2; show _ ≤ 7302232; omega⟩) hJ hI hA.symm hd2 (fun H locs hJ hI => ?_)
  refine lv_icmp_eq (tgt := 2624) hx hb (dc tbL_law_3_k 15 rfl) rfl (fun c7 => ?_) (fun c7 => ?_)
  · have hf := ite_t c7 hf
    cases hf
    refine W.widen (k := cells + 64) (n := slots + 512) (by omega) (by omega) ?_
    exact hk _ _ _ hI hJ (lv_sub hl [0, 1, 2, 3, 4, 5] rfl)
  · have hf := ite_f c7 hf
    refine lv_iconst (v := 0) hx hb (dc tbL_law_3_k 16 rfl) ic_0 ?_
    cases hf
def mlc_5 (a1 a2 a3 a4 a5 : Int32) (M N : Mem) : Option (Mem × Mem) := cap (mX6_legs 0 M) (fun r2 => cal (mX7_legs 135 N) (fun N6 r5 => ite2 (r2 = r5) (some (M, N6)) (none)))
set_option maxHeartbeats 4000000 in
set_option maxRecDepth 100000 in
theorem lc_5 (C : Lx p l s m args meth c b L xs G kd kd' ad) (hc : cells + 64 ≤ 600002 ∧ slots + 512 ≤ 7302232) {x5 a0 a1 a2 a3 a4 a5 : Int32} (hs : Sc xs L x5 a0 a1 a2 a3 a4 a5) {M N M' N' : Mem} (hf : mlc_5 a1 a2 a3 a4 a5 M N = some (M', N')) (hk : AtW p l e s m args below meth c G kd kd' ad b x5 M' N' Q (cells + 64) (slots + 512) 2624) : AtW p l e s m args below meth c G kd kd' ad b x5 M N Q cells slots 452 := by
  intro H locs ls hI hJ hl
  obtain ⟨hx, hb, hml, hown, hts, hK, hap, hap2, hsx, hsx2, hnc, hst, hA, hd1, hd2, hX, hbl, hbA, hk0, hS, hk1, hk3, hk2⟩ := id C
  unfold mlc_5 at hf
  refine lv_aload_n hx hb (dc tbL_law_3_k 18 rfl) rfl (lv_at hl 1 rfl) ?_
  obtain ⟨r2, q1, hf⟩ := cap_s hf
  refine l_calli (g_runV hx hb hml hown hts hK hap hsx hI (tX6_legs l hk0 q1 H.size) cv_X6_legs q_t2_134 rfl rfl ⟨Nat.le_of_ble_eq_true rfl, Nat.le_of_ble_eq_true rfl⟩ hk0.1 (by simp) rfl rfl rfl hl.1 rfl (Nat.le_of_ble_eq_true rfl) (dc tbL_law_3_k 19 rfl) ⟨by have := hc.1; show _ ≤ 600002; omega, by have := hc.2; show _ ≤ 7302232; omega⟩) hI hJ hA hd1 (fun H locs hI hJ => ?_)
  refine lv_aload_n hx hb (dc tbL_law_3_k 20 rfl) rfl (lv_at hl 2 rfl) ?_
  obtain ⟨N6, r5, q4, hf⟩ := cal_s hf
  refine l_calli (g_runV hx hb hml hown hts hK hap2 hsx2 hJ (tX7_legs l hk2 q4 H.size) cv_X7_legs q_t8_44 rfl rfl ⟨Nat.le_of_ble_eq_true rfl, Nat.le_of_ble_eq_true rfl⟩ hk2.1 (by simp) rfl rfl rfl hl.1 rfl (Nat.le_of_ble_eq_true rfl) (dc tbL_law_3_k 21 rfl) ⟨by have := hc.1; show _ ≤ 600002; omega, by have := hc.2; show _ ≤ 7302232; omega⟩) hJ hI hA.symm hd2 (fun H locs hJ hI => ?_)
  refine lv_icmp_eq (tgt := 2624) hx hb (dc tbL_law_3_k 22 rfl) rfl (fun c7 => ?_) (fun c7 => ?_)
  · have hf := ite_t c7 hf
    cases hf
    refine W.widen (k := cells + 64) (n := slots + 512) (by omega) (by omega) ?_
    exact hk _ _ _ hI hJ (lv_sub hl [0, 1, 2, 3, 4, 5] rfl)
  · have hf := ite_f c7 hf
    refine lv_iconst (v := 0) hx hb (dc tbL_law_3_k 23 rfl) ic_0 ?_
    cases hf
def mlc_6 (a1 a2 a3 a4 a5 : Int32) (M N : Mem) : Option (Mem × Mem) := calh (mL_leg 0 152 a1 M) (fun M3 r2 => cal (mX7_leg 135 a1 N) (fun N6 r5 => cap (mX7_thrown 135 N6) (fun r8 => ite2 (r8 = r2) (ite2 (r2 = 0) (chk (okb (0 : Int32) 1) (ite2 ((lg_cmp (rl M3 152 ((0 : Int32)).toNatClampNeg) (r5).toInt64) = 0) (some (M3, N6)) (none))) (some (M3, N6))) (none))))
set_option maxHeartbeats 4000000 in
set_option maxRecDepth 100000 in
theorem lc_6 (C : Lx p l s m args meth c b L xs G kd kd' ad) (hc : cells + 64 ≤ 600002 ∧ slots + 512 ≤ 7302232) {x5 a0 a1 a2 a3 a4 a5 : Int32} (hs : Sc xs L x5 a0 a1 a2 a3 a4 a5) {M N M' N' : Mem} (hf : mlc_6 a1 a2 a3 a4 a5 M N = some (M', N')) (hk : AtW p l e s m args below meth c G kd kd' ad b x5 M' N' Q (cells + 64) (slots + 512) 2624) : AtW p l e s m args below meth c G kd kd' ad b x5 M N Q cells slots 465 := by
  intro H locs ls hI hJ hl
  obtain ⟨hx, hb, hml, hown, hts, hK, hap, hap2, hsx, hsx2, hnc, hst, hA, hd1, hd2, hX, hbl, hbA, hk0, hS, hk1, hk3, hk2⟩ := id C
  unfold mlc_6 at hf
  refine lv_aload_n hx hb (dc tbL_law_3_k 25 rfl) rfl (lv_at hl 1 rfl) ?_
  refine lv_aload_n hx hb (dc tbL_law_3_k 26 rfl) rfl (lv_at hl 0 rfl) ?_
  refine lv_iload hx hb (dc tbL_law_3_k 27 rfl) (lv_at hl 5 rfl) ?_
  refine lv_iconst (v := 1) hx hb (dc tbL_law_3_k 28 rfl) ic_1 ?_
  refine lv_iadd hx hb (dc tbL_law_3_k 29 rfl) ?_
  refine l_sld hx hb hX hbl hbA hI hs.2.1.1 hs.2.1.2 (dc tbL_law_3_k 30 rfl) ?_
  refine lv_aload_n hx hb (dc tbL_law_3_k 31 rfl) rfl (lv_at hl 3 rfl) ?_
  obtain ⟨M3, r2, q1, hf⟩ := calh_s hf
  refine l_callH (g_runH hx hb hml hown hts hK hap hsx hnc hI (tL_leg l hst hk0 hk1 q1 H.size) ch_L_leg q_t6_7 rfl rfl ⟨Nat.le_of_ble_eq_true rfl, Nat.le_of_ble_eq_true rfl⟩ rfl hl.1 rfl (Nat.le_of_ble_eq_true rfl) (dc tbL_law_3_k 32 rfl) ⟨by have := hc.1; show _ ≤ 600002; omega, by have := hc.2; show _ ≤ 7302232; omega⟩) hI hJ hA hd1 (fun H locs hI hJ => ?_)
  refine lv_istore (lv' := [(6, .int r2), (0, .ref b), (1, .ref (ad 0)), (2, .ref (ad 135)), (3, .ref (ad 152)), (4, .ref (ad 153)), (5, .int x5)]) hx hb (dc tbL_law_3_k 33 rfl) hl (by decide) rfl (fun ls hl => ?_)
  refine lv_aload_n hx hb (dc tbL_law_3_k 34 rfl) rfl (lv_at hl 3 rfl) ?_
  refine lv_aload_n hx hb (dc tbL_law_3_k 35 rfl) rfl (lv_at hl 1 rfl) ?_
  refine lv_iload hx hb (dc tbL_law_3_k 36 rfl) (lv_at hl 6 rfl) ?_
  refine lv_iconst (v := 1) hx hb (dc tbL_law_3_k 37 rfl) ic_1 ?_
  refine lv_iadd hx hb (dc tbL_law_3_k 38 rfl) ?_
  refine l_sld hx hb hX hbl hbA hI hs.2.1.1 hs.2.1.2 (dc tbL_law_3_k 39 rfl) ?_
  obtain ⟨N6, r5, q4, hf⟩ := cal_s hf
  refine l_calli (g_runV hx hb hml hown hts hK hap2 hsx2 hJ (tX7_leg l hk2 q4 H.size) cv_X7_leg q_t8_48 rfl rfl ⟨Nat.le_of_ble_eq_true rfl, Nat.le_of_ble_eq_true rfl⟩ hk2.1 (by simp) rfl rfl rfl hl.1 rfl (Nat.le_of_ble_eq_true rfl) (dc tbL_law_4_k 0 rfl) ⟨by have := hc.1; show _ ≤ 600002; omega, by have := hc.2; show _ ≤ 7302232; omega⟩) hJ hI hA.symm hd2 (fun H locs hJ hI => ?_)
  refine lv_istore (lv' := [(7, .int r5), (6, .int r2), (0, .ref b), (1, .ref (ad 0)), (2, .ref (ad 135)), (3, .ref (ad 152)), (4, .ref (ad 153)), (5, .int x5)]) hx hb (dc tbL_law_4_k 1 rfl) hl (by decide) rfl (fun ls hl => ?_)
  refine lv_aload_n hx hb (dc tbL_law_4_k 2 rfl) rfl (lv_at hl 4 rfl) ?_
  obtain ⟨r8, q7, hf⟩ := cap_s hf
  refine l_calli (g_runV hx hb hml hown hts hK hap2 hsx2 hJ (tX7_thrown l hk2 q7 H.size) cv_X7_thrown q_t7_170 rfl rfl ⟨Nat.le_of_ble_eq_true rfl, Nat.le_of_ble_eq_true rfl⟩ hk2.1 (by simp) rfl rfl rfl hl.1 rfl (Nat.le_of_ble_eq_true rfl) (dc tbL_law_4_k 3 rfl) ⟨by have := hc.1; show _ ≤ 600002; omega, by have := hc.2; show _ ≤ 7302232; omega⟩) hJ hI hA.symm hd2 (fun H locs hJ hI => ?_)
  refine lv_iload hx hb (dc tbL_law_4_k 4 rfl) (lv_at hl 1 rfl) ?_
  refine lv_icmp_eq (tgt := 501) hx hb (dc tbL_law_4_k 5 rfl) rfl (fun c10 => ?_) (fun c10 => ?_)
  · have hf := ite_t c10 hf
    refine lv_iload hx hb (dc tbL_law_4_k 8 rfl) (lv_at hl 1 rfl) ?_
    refine lv_if_ne (tgt := 518) hx hb (dc tbL_law_4_k 9 rfl) rfl (fun c11 => ?_) (fun c11 => ?_)
    · have hf := ite_f c11 hf
      refine lv_goto (tgt := 2624) hx hb (dc tbL_law_4_k 19 rfl) rfl ?_
      cases hf
      refine W.widen (k := cells + 64) (n := slots + 512) (by omega) (by omega) ?_
      exact hk _ _ _ hI hJ (lv_sub hl [2, 3, 4, 5, 6, 7] rfl)
    · have hf := ite_t c11 hf
      refine lv_aload_n hx hb (dc tbL_law_4_k 10 rfl) rfl (lv_at hl 5 rfl) ?_
      refine lv_iconst (v := 0) hx hb (dc tbL_law_4_k 11 rfl) ic_0 ?_
      obtain ⟨h12, hf⟩ := chk_s hf
      refine g_lald hx hb hK hI hk1 (okb_in h12) (dc tbL_law_4_k 12 rfl) ?_
      refine lv_iload hx hb (dc tbL_law_4_k 13 rfl) (lv_at hl 0 rfl) ?_
      refine lv_i2l hx hb (dc tbL_law_4_k 14 rfl) rfl ?_
      refine W.lcmp hx hb (dc tbL_law_4_k 15 rfl) ?_
      refine lv_if_eq (tgt := 518) hx hb (dc tbL_law_4_k 16 rfl) rfl (fun c13 => ?_) (fun c13 => ?_)
      · have hf := ite_t c13 hf
        refine lv_goto (tgt := 2624) hx hb (dc tbL_law_4_k 19 rfl) rfl ?_
        cases hf
        refine W.widen (k := cells + 64) (n := slots + 512) (by omega) (by omega) ?_
        exact hk _ _ _ hI hJ (lv_sub hl [2, 3, 4, 5, 6, 7] rfl)
      · have hf := ite_f c13 hf
        refine lv_iconst (v := 0) hx hb (dc tbL_law_4_k 17 rfl) ic_0 ?_
        cases hf
  · have hf := ite_f c10 hf
    refine lv_iconst (v := 0) hx hb (dc tbL_law_4_k 6 rfl) ic_0 ?_
    cases hf
def mlc_7 (a1 a2 a3 a4 a5 : Int32) (M N : Mem) : Option (Mem × Mem) := calh (mL_isUp 0 152 a1 M) (fun M3 r2 => cal (mX7_isUp 135 a1 N) (fun N6 r5 => cap (mX7_thrown 135 N6) (fun r8 => ite2 (r8 = r2) (ite2 (r2 = 0) (chk (okb (0 : Int32) 1) (ite2 (r5 = 0) (ite2 ((lg_cmp (rl M3 152 ((0 : Int32)).toNatClampNeg) (0 : Int64)) = 0) (some (M3, N6)) (none)) (ite2 ((lg_cmp (rl M3 152 ((0 : Int32)).toNatClampNeg) (1 : Int64)) = 0) (some (M3, N6)) (none)))) (some (M3, N6))) (none))))
set_option maxHeartbeats 4000000 in
set_option maxRecDepth 100000 in
theorem lc_7 (C : Lx p l s m args meth c b L xs G kd kd' ad) (hc : cells + 64 ≤ 600002 ∧ slots + 512 ≤ 7302232) {x5 a0 a1 a2 a3 a4 a5 : Int32} (hs : Sc xs L x5 a0 a1 a2 a3 a4 a5) {M N M' N' : Mem} (hf : mlc_7 a1 a2 a3 a4 a5 M N = some (M', N')) (hk : AtW p l e s m args below meth c G kd kd' ad b x5 M' N' Q (cells + 64) (slots + 512) 2624) : AtW p l e s m args below meth c G kd kd' ad b x5 M N Q cells slots 521 := by
  intro H locs ls hI hJ hl
  obtain ⟨hx, hb, hml, hown, hts, hK, hap, hap2, hsx, hsx2, hnc, hst, hA, hd1, hd2, hX, hbl, hbA, hk0, hS, hk1, hk3, hk2⟩ := id C
  unfold mlc_7 at hf
  refine lv_aload_n hx hb (dc tbL_law_4_k 20 rfl) rfl (lv_at hl 1 rfl) ?_
  refine lv_aload_n hx hb (dc tbL_law_4_k 21 rfl) rfl (lv_at hl 0 rfl) ?_
  refine lv_iload hx hb (dc tbL_law_4_k 22 rfl) (lv_at hl 5 rfl) ?_
  refine lv_iconst (v := 1) hx hb (dc tbL_law_4_k 23 rfl) ic_1 ?_
  refine lv_iadd hx hb (dc tbL_law_4_k 24 rfl) ?_
  refine l_sld hx hb hX hbl hbA hI hs.2.1.1 hs.2.1.2 (dc tbL_law_4_k 25 rfl) ?_
  refine lv_aload_n hx hb (dc tbL_law_4_k 26 rfl) rfl (lv_at hl 3 rfl) ?_
  obtain ⟨M3, r2, q1, hf⟩ := calh_s hf
  refine l_callH (g_runH hx hb hml hown hts hK hap hsx hnc hI (tL_isUp l hst hk0 hk1 q1 H.size) ch_L_isUp q_t6_32 rfl rfl ⟨Nat.le_of_ble_eq_true rfl, Nat.le_of_ble_eq_true rfl⟩ rfl hl.1 rfl (Nat.le_of_ble_eq_true rfl) (dc tbL_law_4_k 27 rfl) ⟨by have := hc.1; show _ ≤ 600002; omega, by have := hc.2; show _ ≤ 7302232; omega⟩) hI hJ hA hd1 (fun H locs hI hJ => ?_)
  refine lv_istore (lv' := [(6, .int r2), (0, .ref b), (1, .ref (ad 0)), (2, .ref (ad 135)), (3, .ref (ad 152)), (4, .ref (ad 153)), (5, .int x5)]) hx hb (dc tbL_law_4_k 28 rfl) hl (by decide) rfl (fun ls hl => ?_)
  refine lv_aload_n hx hb (dc tbL_law_4_k 29 rfl) rfl (lv_at hl 3 rfl) ?_
  refine lv_aload_n hx hb (dc tbL_law_4_k 30 rfl) rfl (lv_at hl 1 rfl) ?_
  refine lv_iload hx hb (dc tbL_law_4_k 31 rfl) (lv_at hl 6 rfl) ?_
  refine lv_iconst (v := 1) hx hb (dc tbL_law_4_k 32 rfl) ic_1 ?_
  refine lv_iadd hx hb (dc tbL_law_4_k 33 rfl) ?_
  refine l_sld hx hb hX hbl hbA hI hs.2.1.1 hs.2.1.2 (dc tbL_law_4_k 34 rfl) ?_
  obtain ⟨N6, r5, q4, hf⟩ := cal_s hf
  refine l_calli (g_runV hx hb hml hown hts hK hap2 hsx2 hJ (tX7_isUp l hk2 q4 H.size) cv_X7_isUp q_t8_60 rfl rfl ⟨Nat.le_of_ble_eq_true rfl, Nat.le_of_ble_eq_true rfl⟩ hk2.1 (by simp) rfl rfl rfl hl.1 rfl (Nat.le_of_ble_eq_true rfl) (dc tbL_law_4_k 35 rfl) ⟨by have := hc.1; show _ ≤ 600002; omega, by have := hc.2; show _ ≤ 7302232; omega⟩) hJ hI hA.symm hd2 (fun H locs hJ hI => ?_)
  refine lv_istore (lv' := [(7, .int r5), (6, .int r2), (0, .ref b), (1, .ref (ad 0)), (2, .ref (ad 135)), (3, .ref (ad 152)), (4, .ref (ad 153)), (5, .int x5)]) hx hb (dc tbL_law_4_k 36 rfl) hl (by decide) rfl (fun ls hl => ?_)
  refine lv_aload_n hx hb (dc tbL_law_4_k 37 rfl) rfl (lv_at hl 4 rfl) ?_
  obtain ⟨r8, q7, hf⟩ := cap_s hf
  refine l_calli (g_runV hx hb hml hown hts hK hap2 hsx2 hJ (tX7_thrown l hk2 q7 H.size) cv_X7_thrown q_t7_170 rfl rfl ⟨Nat.le_of_ble_eq_true rfl, Nat.le_of_ble_eq_true rfl⟩ hk2.1 (by simp) rfl rfl rfl hl.1 rfl (Nat.le_of_ble_eq_true rfl) (dc tbL_law_4_k 38 rfl) ⟨by have := hc.1; show _ ≤ 600002; omega, by have := hc.2; show _ ≤ 7302232; omega⟩) hJ hI hA.symm hd2 (fun H locs hJ hI => ?_)
  refine lv_iload hx hb (dc tbL_law_4_k 39 rfl) (lv_at hl 1 rfl) ?_
  refine lv_icmp_eq (tgt := 557) hx hb (dc tbL_law_5_k 0 rfl) rfl (fun c10 => ?_) (fun c10 => ?_)
  · have hf := ite_t c10 hf
    refine lv_iload hx hb (dc tbL_law_5_k 3 rfl) (lv_at hl 1 rfl) ?_
    refine lv_if_ne (tgt := 581) hx hb (dc tbL_law_5_k 4 rfl) rfl (fun c11 => ?_) (fun c11 => ?_)
    · have hf := ite_f c11 hf
      refine lv_goto (tgt := 2624) hx hb (dc tbL_law_5_k 17 rfl) rfl ?_
      cases hf
      refine W.widen (k := cells + 64) (n := slots + 512) (by omega) (by omega) ?_
      exact hk _ _ _ hI hJ (lv_sub hl [2, 3, 4, 5, 6, 7] rfl)
    · have hf := ite_t c11 hf
      refine lv_aload_n hx hb (dc tbL_law_5_k 5 rfl) rfl (lv_at hl 5 rfl) ?_
      refine lv_iconst (v := 0) hx hb (dc tbL_law_5_k 6 rfl) ic_0 ?_
      obtain ⟨h12, hf⟩ := chk_s hf
      refine g_lald hx hb hK hI hk1 (okb_in h12) (dc tbL_law_5_k 7 rfl) ?_
      refine lv_iload hx hb (dc tbL_law_5_k 8 rfl) (lv_at hl 0 rfl) ?_
      refine lv_if_eq (tgt := 574) hx hb (dc tbL_law_5_k 9 rfl) rfl (fun c13 => ?_) (fun c13 => ?_)
      · have hf := ite_t c13 hf
        refine lv_lconst (v := 0) hx hb (dc tbL_law_5_k 12 rfl) (by decide) ?_
        refine W.lcmp hx hb (dc tbL_law_5_k 13 rfl) ?_
        refine lv_if_eq (tgt := 581) hx hb (dc tbL_law_5_k 14 rfl) rfl (fun c14 => ?_) (fun c14 => ?_)
        · have hf := ite_t c14 hf
          refine lv_goto (tgt := 2624) hx hb (dc tbL_law_5_k 17 rfl) rfl ?_
          cases hf
          refine W.widen (k := cells + 64) (n := slots + 512) (by omega) (by omega) ?_
          exact hk _ _ _ hI hJ (lv_sub hl [2, 3, 4, 5, 6, 7] rfl)
        · have hf := ite_f c14 hf
          refine lv_iconst (v := 0) hx hb (dc tbL_law_5_k 15 rfl) ic_0 ?_
          cases hf
      · have hf := ite_f c13 hf
        refine lv_lconst (v := 1) hx hb (dc tbL_law_5_k 10 rfl) (by decide) ?_
        refine lv_goto (tgt := 575) hx hb (dc tbL_law_5_k 11 rfl) rfl ?_
        refine W.lcmp hx hb (dc tbL_law_5_k 13 rfl) ?_
        refine lv_if_eq (tgt := 581) hx hb (dc tbL_law_5_k 14 rfl) rfl (fun c15 => ?_) (fun c15 => ?_)
        · have hf := ite_t c15 hf
          refine lv_goto (tgt := 2624) hx hb (dc tbL_law_5_k 17 rfl) rfl ?_
          cases hf
          refine W.widen (k := cells + 64) (n := slots + 512) (by omega) (by omega) ?_
          exact hk _ _ _ hI hJ (lv_sub hl [2, 3, 4, 5, 6, 7] rfl)
        · have hf := ite_f c15 hf
          refine lv_iconst (v := 0) hx hb (dc tbL_law_5_k 15 rfl) ic_0 ?_
          cases hf
  · have hf := ite_f c10 hf
    refine lv_iconst (v := 0) hx hb (dc tbL_law_5_k 1 rfl) ic_0 ?_
    cases hf
def mlc_8 (a1 a2 a3 a4 a5 : Int32) (M N : Mem) : Option (Mem × Mem) := cap (mX6_deduction 0 M) (fun r2 => cal (mX7_deduction 135 N) (fun N6 r5 => ite2 ((Op.cmpValue (FP.dcmp r2 r5) CmpOp.l) = 0) (some (M, N6)) (ite2 ((Op.cmpValue (FP.dcmp r2 r2) CmpOp.l) = 0) (none) (ite2 ((Op.cmpValue (FP.dcmp r5 r5) CmpOp.l) = 0) (none) (some (M, N6))))))
set_option maxHeartbeats 4000000 in
set_option maxRecDepth 100000 in
theorem lc_8 (C : Lx p l s m args meth c b L xs G kd kd' ad) (hc : cells + 64 ≤ 600002 ∧ slots + 512 ≤ 7302232) {x5 a0 a1 a2 a3 a4 a5 : Int32} (hs : Sc xs L x5 a0 a1 a2 a3 a4 a5) {M N M' N' : Mem} (hf : mlc_8 a1 a2 a3 a4 a5 M N = some (M', N')) (hk : AtW p l e s m args below meth c G kd kd' ad b x5 M' N' Q (cells + 64) (slots + 512) 2624) : AtW p l e s m args below meth c G kd kd' ad b x5 M N Q cells slots 584 := by
  intro H locs ls hI hJ hl
  obtain ⟨hx, hb, hml, hown, hts, hK, hap, hap2, hsx, hsx2, hnc, hst, hA, hd1, hd2, hX, hbl, hbA, hk0, hS, hk1, hk3, hk2⟩ := id C
  unfold mlc_8 at hf
  refine lv_aload_n hx hb (dc tbL_law_5_k 18 rfl) rfl (lv_at hl 1 rfl) ?_
  obtain ⟨r2, q1, hf⟩ := cap_s hf
  refine l_calld (g_runV hx hb hml hown hts hK hap hsx hI (tX6_deduction l hk0 q1 H.size) cv_X6_deduction q_t2_138 rfl rfl ⟨Nat.le_of_ble_eq_true rfl, Nat.le_of_ble_eq_true rfl⟩ hk0.1 (by simp) rfl rfl rfl hl.1 rfl (Nat.le_of_ble_eq_true rfl) (dc tbL_law_5_k 19 rfl) ⟨by have := hc.1; show _ ≤ 600002; omega, by have := hc.2; show _ ≤ 7302232; omega⟩) hI hJ hA hd1 (fun H locs hI hJ => ?_)
  refine lv_dstore (lv' := [(6, .double r2), (0, .ref b), (1, .ref (ad 0)), (2, .ref (ad 135)), (3, .ref (ad 152)), (4, .ref (ad 153)), (5, .int x5)]) hx hb (dc tbL_law_5_k 20 rfl) hl (by decide) rfl (fun ls hl => ?_)
  refine lv_aload_n hx hb (dc tbL_law_5_k 21 rfl) rfl (lv_at hl 3 rfl) ?_
  obtain ⟨N6, r5, q4, hf⟩ := cal_s hf
  refine l_calld (g_runV hx hb hml hown hts hK hap2 hsx2 hJ (tX7_deduction l hk2 q4 H.size) cv_X7_deduction q_t8_68 rfl rfl ⟨Nat.le_of_ble_eq_true rfl, Nat.le_of_ble_eq_true rfl⟩ hk2.1 (by simp) rfl rfl rfl hl.1 rfl (Nat.le_of_ble_eq_true rfl) (dc tbL_law_5_k 22 rfl) ⟨by have := hc.1; show _ ≤ 600002; omega, by have := hc.2; show _ ≤ 7302232; omega⟩) hJ hI hA.symm hd2 (fun H locs hJ hI => ?_)
  refine lv_dstore (lv' := [(8, .double r5), (6, .double r2), (0, .ref b), (1, .ref (ad 0)), (2, .ref (ad 135)), (3, .ref (ad 152)), (4, .ref (ad 153)), (5, .int x5)]) hx hb (dc tbL_law_5_k 23 rfl) hl (by decide) rfl (fun ls hl => ?_)
  refine lv_dload hx hb (dc tbL_law_5_k 24 rfl) (lv_at hl 1 rfl) ?_
  refine lv_dload hx hb (dc tbL_law_5_k 25 rfl) (lv_at hl 0 rfl) ?_
  refine lv_dcmp hx hb (dc tbL_law_5_k 26 rfl) ?_
  refine lv_if_eq (tgt := 622) hx hb (dc tbL_law_5_k 27 rfl) rfl (fun c7 => ?_) (fun c7 => ?_)
  · have hf := ite_t c7 hf
    refine lv_goto (tgt := 2624) hx hb (dc tbL_law_5_k 38 rfl) rfl ?_
    cases hf
    refine W.widen (k := cells + 64) (n := slots + 512) (by omega) (by omega) ?_
    exact hk _ _ _ hI hJ (lv_sub hl [2, 3, 4, 5, 6, 7] rfl)
  · have hf := ite_f c7 hf
    refine lv_dload hx hb (dc tbL_law_5_k 28 rfl) (lv_at hl 1 rfl) ?_
    refine lv_dload hx hb (dc tbL_law_5_k 29 rfl) (lv_at hl 1 rfl) ?_
    refine lv_dcmp hx hb (dc tbL_law_5_k 30 rfl) ?_
    refine lv_if_eq (tgt := 620) hx hb (dc tbL_law_5_k 31 rfl) rfl (fun c8 => ?_) (fun c8 => ?_)
    · have hf := ite_t c8 hf
      refine lv_iconst (v := 0) hx hb (dc tbL_law_5_k 36 rfl) ic_0 ?_
      cases hf
    · have hf := ite_f c8 hf
      refine lv_dload hx hb (dc tbL_law_5_k 32 rfl) (lv_at hl 0 rfl) ?_
      refine lv_dload hx hb (dc tbL_law_5_k 33 rfl) (lv_at hl 0 rfl) ?_
      refine lv_dcmp hx hb (dc tbL_law_5_k 34 rfl) ?_
      refine lv_if_ne (tgt := 622) hx hb (dc tbL_law_5_k 35 rfl) rfl (fun c9 => ?_) (fun c9 => ?_)
      · have hf := ite_f c9 hf
        refine lv_goto (tgt := 2624) hx hb (dc tbL_law_5_k 38 rfl) rfl ?_
        cases hf
        refine W.widen (k := cells + 64) (n := slots + 512) (by omega) (by omega) ?_
        exact hk _ _ _ hI hJ (lv_sub hl [2, 3, 4, 5, 6, 7] rfl)
      · have hf := ite_t c9 hf
        refine lv_iconst (v := 0) hx hb (dc tbL_law_5_k 36 rfl) ic_0 ?_
        cases hf
def mlc_9 (a1 a2 a3 a4 a5 : Int32) (M N : Mem) : Option (Mem × Mem) := cap (mX6_flatLength 0 M) (fun r2 => cal (mX7_flatLength 135 N) (fun N6 r5 => ite2 ((Op.cmpValue (FP.dcmp r2 r5) CmpOp.l) = 0) (some (M, N6)) (ite2 ((Op.cmpValue (FP.dcmp r2 r2) CmpOp.l) = 0) (none) (ite2 ((Op.cmpValue (FP.dcmp r5 r5) CmpOp.l) = 0) (none) (some (M, N6))))))
set_option maxHeartbeats 4000000 in
set_option maxRecDepth 100000 in
theorem lc_9 (C : Lx p l s m args meth c b L xs G kd kd' ad) (hc : cells + 64 ≤ 600002 ∧ slots + 512 ≤ 7302232) {x5 a0 a1 a2 a3 a4 a5 : Int32} (hs : Sc xs L x5 a0 a1 a2 a3 a4 a5) {M N M' N' : Mem} (hf : mlc_9 a1 a2 a3 a4 a5 M N = some (M', N')) (hk : AtW p l e s m args below meth c G kd kd' ad b x5 M' N' Q (cells + 64) (slots + 512) 2624) : AtW p l e s m args below meth c G kd kd' ad b x5 M N Q cells slots 625 := by
  intro H locs ls hI hJ hl
  obtain ⟨hx, hb, hml, hown, hts, hK, hap, hap2, hsx, hsx2, hnc, hst, hA, hd1, hd2, hX, hbl, hbA, hk0, hS, hk1, hk3, hk2⟩ := id C
  unfold mlc_9 at hf
  refine lv_aload_n hx hb (dc tbL_law_5_k 39 rfl) rfl (lv_at hl 1 rfl) ?_
  obtain ⟨r2, q1, hf⟩ := cap_s hf
  refine l_calld (g_runV hx hb hml hown hts hK hap hsx hI (tX6_flatLength l hk0 q1 H.size) cv_X6_flatLength q_t2_149 rfl rfl ⟨Nat.le_of_ble_eq_true rfl, Nat.le_of_ble_eq_true rfl⟩ hk0.1 (by simp) rfl rfl rfl hl.1 rfl (Nat.le_of_ble_eq_true rfl) (dc tbL_law_6_k 0 rfl) ⟨by have := hc.1; show _ ≤ 600002; omega, by have := hc.2; show _ ≤ 7302232; omega⟩) hI hJ hA hd1 (fun H locs hI hJ => ?_)
  refine lv_dstore (lv' := [(6, .double r2), (0, .ref b), (1, .ref (ad 0)), (2, .ref (ad 135)), (3, .ref (ad 152)), (4, .ref (ad 153)), (5, .int x5)]) hx hb (dc tbL_law_6_k 1 rfl) hl (by decide) rfl (fun ls hl => ?_)
  refine lv_aload_n hx hb (dc tbL_law_6_k 2 rfl) rfl (lv_at hl 3 rfl) ?_
  obtain ⟨N6, r5, q4, hf⟩ := cal_s hf
  refine l_calld (g_runV hx hb hml hown hts hK hap2 hsx2 hJ (tX7_flatLength l hk2 q4 H.size) cv_X7_flatLength q_t8_79 rfl rfl ⟨Nat.le_of_ble_eq_true rfl, Nat.le_of_ble_eq_true rfl⟩ hk2.1 (by simp) rfl rfl rfl hl.1 rfl (Nat.le_of_ble_eq_true rfl) (dc tbL_law_6_k 3 rfl) ⟨by have := hc.1; show _ ≤ 600002; omega, by have := hc.2; show _ ≤ 7302232; omega⟩) hJ hI hA.symm hd2 (fun H locs hJ hI => ?_)
  refine lv_dstore (lv' := [(8, .double r5), (6, .double r2), (0, .ref b), (1, .ref (ad 0)), (2, .ref (ad 135)), (3, .ref (ad 152)), (4, .ref (ad 153)), (5, .int x5)]) hx hb (dc tbL_law_6_k 4 rfl) hl (by decide) rfl (fun ls hl => ?_)
  refine lv_dload hx hb (dc tbL_law_6_k 5 rfl) (lv_at hl 1 rfl) ?_
  refine lv_dload hx hb (dc tbL_law_6_k 6 rfl) (lv_at hl 0 rfl) ?_
  refine lv_dcmp hx hb (dc tbL_law_6_k 7 rfl) ?_
  refine lv_if_eq (tgt := 663) hx hb (dc tbL_law_6_k 8 rfl) rfl (fun c7 => ?_) (fun c7 => ?_)
  · have hf := ite_t c7 hf
    refine lv_goto (tgt := 2624) hx hb (dc tbL_law_6_k 19 rfl) rfl ?_
    cases hf
    refine W.widen (k := cells + 64) (n := slots + 512) (by omega) (by omega) ?_
    exact hk _ _ _ hI hJ (lv_sub hl [2, 3, 4, 5, 6, 7] rfl)
  · have hf := ite_f c7 hf
    refine lv_dload hx hb (dc tbL_law_6_k 9 rfl) (lv_at hl 1 rfl) ?_
    refine lv_dload hx hb (dc tbL_law_6_k 10 rfl) (lv_at hl 1 rfl) ?_
    refine lv_dcmp hx hb (dc tbL_law_6_k 11 rfl) ?_
    refine lv_if_eq (tgt := 661) hx hb (dc tbL_law_6_k 12 rfl) rfl (fun c8 => ?_) (fun c8 => ?_)
    · have hf := ite_t c8 hf
      refine lv_iconst (v := 0) hx hb (dc tbL_law_6_k 17 rfl) ic_0 ?_
      cases hf
    · have hf := ite_f c8 hf
      refine lv_dload hx hb (dc tbL_law_6_k 13 rfl) (lv_at hl 0 rfl) ?_
      refine lv_dload hx hb (dc tbL_law_6_k 14 rfl) (lv_at hl 0 rfl) ?_
      refine lv_dcmp hx hb (dc tbL_law_6_k 15 rfl) ?_
      refine lv_if_ne (tgt := 663) hx hb (dc tbL_law_6_k 16 rfl) rfl (fun c9 => ?_) (fun c9 => ?_)
      · have hf := ite_f c9 hf
        refine lv_goto (tgt := 2624) hx hb (dc tbL_law_6_k 19 rfl) rfl ?_
        cases hf
        refine W.widen (k := cells + 64) (n := slots + 512) (by omega) (by omega) ?_
        exact hk _ _ _ hI hJ (lv_sub hl [2, 3, 4, 5, 6, 7] rfl)
      · have hf := ite_t c9 hf
        refine lv_iconst (v := 0) hx hb (dc tbL_law_6_k 17 rfl) ic_0 ?_
        cases hf
def mlc_10 (a1 a2 a3 a4 a5 : Int32) (M N : Mem) : Option (Mem × Mem) := calh (mL_linePlace 0 153 a1 M) (fun M3 r2 => cal (mX7_linePlace 135 a1 N) (fun N6 r5 => cap (mX7_thrown 135 N6) (fun r8 => ite2 (r8 = r2) (ite2 (r2 = 0) (chk (okb (0 : Int32) 1) (ite2 ((Op.cmpValue (FP.dcmp (M3.2.2 153 ((0 : Int32)).toNatClampNeg) r5) CmpOp.l) = 0) (some (M3, N6)) (chk (okb (0 : Int32) 1) (chk (okb (0 : Int32) 1) (ite2 ((Op.cmpValue (FP.dcmp (M3.2.2 153 ((0 : Int32)).toNatClampNeg) (M3.2.2 153 ((0 : Int32)).toNatClampNeg)) CmpOp.l) = 0) (none) (ite2 ((Op.cmpValue (FP.dcmp r5 r5) CmpOp.l) = 0) (none) (some (M3, N6)))))))) (some (M3, N6))) (none))))
set_option maxHeartbeats 4000000 in
set_option maxRecDepth 100000 in
theorem lc_10 (C : Lx p l s m args meth c b L xs G kd kd' ad) (hc : cells + 64 ≤ 600002 ∧ slots + 512 ≤ 7302232) {x5 a0 a1 a2 a3 a4 a5 : Int32} (hs : Sc xs L x5 a0 a1 a2 a3 a4 a5) {M N M' N' : Mem} (hf : mlc_10 a1 a2 a3 a4 a5 M N = some (M', N')) (hk : AtW p l e s m args below meth c G kd kd' ad b x5 M' N' Q (cells + 64) (slots + 512) 2624) : AtW p l e s m args below meth c G kd kd' ad b x5 M N Q cells slots 666 := by
  intro H locs ls hI hJ hl
  obtain ⟨hx, hb, hml, hown, hts, hK, hap, hap2, hsx, hsx2, hnc, hst, hA, hd1, hd2, hX, hbl, hbA, hk0, hS, hk1, hk3, hk2⟩ := id C
  unfold mlc_10 at hf
  refine lv_aload_n hx hb (dc tbL_law_6_k 20 rfl) rfl (lv_at hl 1 rfl) ?_
  refine lv_aload_n hx hb (dc tbL_law_6_k 21 rfl) rfl (lv_at hl 0 rfl) ?_
  refine lv_iload hx hb (dc tbL_law_6_k 22 rfl) (lv_at hl 5 rfl) ?_
  refine lv_iconst (v := 1) hx hb (dc tbL_law_6_k 23 rfl) ic_1 ?_
  refine lv_iadd hx hb (dc tbL_law_6_k 24 rfl) ?_
  refine l_sld hx hb hX hbl hbA hI hs.2.1.1 hs.2.1.2 (dc tbL_law_6_k 25 rfl) ?_
  refine lv_aload hx hb (dc tbL_law_6_k 26 rfl) (lv_at hl 4 rfl) ?_
  obtain ⟨M3, r2, q1, hf⟩ := calh_s hf
  refine l_callH (g_runH hx hb hml hown hts hK hap hsx hnc hI (tL_linePlace l hst hk0 hk3 q1 H.size) ch_L_linePlace q_t6_44 rfl rfl ⟨Nat.le_of_ble_eq_true rfl, Nat.le_of_ble_eq_true rfl⟩ rfl hl.1 rfl (Nat.le_of_ble_eq_true rfl) (dc tbL_law_6_k 27 rfl) ⟨by have := hc.1; show _ ≤ 600002; omega, by have := hc.2; show _ ≤ 7302232; omega⟩) hI hJ hA hd1 (fun H locs hI hJ => ?_)
  refine lv_istore (lv' := [(6, .int r2), (0, .ref b), (1, .ref (ad 0)), (2, .ref (ad 135)), (3, .ref (ad 152)), (4, .ref (ad 153)), (5, .int x5)]) hx hb (dc tbL_law_6_k 28 rfl) hl (by decide) rfl (fun ls hl => ?_)
  refine lv_aload_n hx hb (dc tbL_law_6_k 29 rfl) rfl (lv_at hl 3 rfl) ?_
  refine lv_aload_n hx hb (dc tbL_law_6_k 30 rfl) rfl (lv_at hl 1 rfl) ?_
  refine lv_iload hx hb (dc tbL_law_6_k 31 rfl) (lv_at hl 6 rfl) ?_
  refine lv_iconst (v := 1) hx hb (dc tbL_law_6_k 32 rfl) ic_1 ?_
  refine lv_iadd hx hb (dc tbL_law_6_k 33 rfl) ?_
  refine l_sld hx hb hX hbl hbA hI hs.2.1.1 hs.2.1.2 (dc tbL_law_6_k 34 rfl) ?_
  obtain ⟨N6, r5, q4, hf⟩ := cal_s hf
  refine l_calld (g_runV hx hb hml hown hts hK hap2 hsx2 hJ (tX7_linePlace l hk2 q4 H.size) cv_X7_linePlace q_t8_87 rfl rfl ⟨Nat.le_of_ble_eq_true rfl, Nat.le_of_ble_eq_true rfl⟩ hk2.1 (by simp) rfl rfl rfl hl.1 rfl (Nat.le_of_ble_eq_true rfl) (dc tbL_law_6_k 35 rfl) ⟨by have := hc.1; show _ ≤ 600002; omega, by have := hc.2; show _ ≤ 7302232; omega⟩) hJ hI hA.symm hd2 (fun H locs hJ hI => ?_)
  refine lv_dstore (lv' := [(7, .double r5), (6, .int r2), (0, .ref b), (1, .ref (ad 0)), (2, .ref (ad 135)), (3, .ref (ad 152)), (4, .ref (ad 153)), (5, .int x5)]) hx hb (dc tbL_law_6_k 36 rfl) hl (by decide) rfl (fun ls hl => ?_)
  refine lv_aload_n hx hb (dc tbL_law_6_k 37 rfl) rfl (lv_at hl 4 rfl) ?_
  obtain ⟨r8, q7, hf⟩ := cap_s hf
  refine l_calli (g_runV hx hb hml hown hts hK hap2 hsx2 hJ (tX7_thrown l hk2 q7 H.size) cv_X7_thrown q_t7_170 rfl rfl ⟨Nat.le_of_ble_eq_true rfl, Nat.le_of_ble_eq_true rfl⟩ hk2.1 (by simp) rfl rfl rfl hl.1 rfl (Nat.le_of_ble_eq_true rfl) (dc tbL_law_6_k 38 rfl) ⟨by have := hc.1; show _ ≤ 600002; omega, by have := hc.2; show _ ≤ 7302232; omega⟩) hJ hI hA.symm hd2 (fun H locs hJ hI => ?_)
  refine lv_iload hx hb (dc tbL_law_6_k 39 rfl) (lv_at hl 1 rfl) ?_
  refine lv_icmp_eq (tgt := 703) hx hb (dc tbL_law_7_k 0 rfl) rfl (fun c10 => ?_) (fun c10 => ?_)
  · have hf := ite_t c10 hf
    refine lv_iload hx hb (dc tbL_law_7_k 3 rfl) (lv_at hl 1 rfl) ?_
    refine lv_if_ne (tgt := 740) hx hb (dc tbL_law_7_k 4 rfl) rfl (fun c11 => ?_) (fun c11 => ?_)
    · have hf := ite_f c11 hf
      refine lv_goto (tgt := 2624) hx hb (dc tbL_law_7_k 25 rfl) rfl ?_
      cases hf
      refine W.widen (k := cells + 64) (n := slots + 512) (by omega) (by omega) ?_
      exact hk _ _ _ hI hJ (lv_sub hl [2, 3, 4, 5, 6, 7] rfl)
    · have hf := ite_t c11 hf
      refine lv_aload hx hb (dc tbL_law_7_k 5 rfl) (lv_at hl 6 rfl) ?_
      refine lv_iconst (v := 0) hx hb (dc tbL_law_7_k 6 rfl) ic_0 ?_
      obtain ⟨h12, hf⟩ := chk_s hf
      refine g_dald hx hb hK hI hk3 (okb_in h12) (dc tbL_law_7_k 7 rfl) ?_
      refine lv_dload hx hb (dc tbL_law_7_k 8 rfl) (lv_at hl 0 rfl) ?_
      refine lv_dcmp hx hb (dc tbL_law_7_k 9 rfl) ?_
      refine lv_if_eq (tgt := 740) hx hb (dc tbL_law_7_k 10 rfl) rfl (fun c13 => ?_) (fun c13 => ?_)
      · have hf := ite_t c13 hf
        refine lv_goto (tgt := 2624) hx hb (dc tbL_law_7_k 25 rfl) rfl ?_
        cases hf
        refine W.widen (k := cells + 64) (n := slots + 512) (by omega) (by omega) ?_
        exact hk _ _ _ hI hJ (lv_sub hl [2, 3, 4, 5, 6, 7] rfl)
      · have hf := ite_f c13 hf
        refine lv_aload hx hb (dc tbL_law_7_k 11 rfl) (lv_at hl 6 rfl) ?_
        refine lv_iconst (v := 0) hx hb (dc tbL_law_7_k 12 rfl) ic_0 ?_
        obtain ⟨h14, hf⟩ := chk_s hf
        refine g_dald hx hb hK hI hk3 (okb_in h14) (dc tbL_law_7_k 13 rfl) ?_
        refine lv_aload hx hb (dc tbL_law_7_k 14 rfl) (lv_at hl 6 rfl) ?_
        refine lv_iconst (v := 0) hx hb (dc tbL_law_7_k 15 rfl) ic_0 ?_
        obtain ⟨h15, hf⟩ := chk_s hf
        refine g_dald hx hb hK hI hk3 (okb_in h15) (dc tbL_law_7_k 16 rfl) ?_
        refine lv_dcmp hx hb (dc tbL_law_7_k 17 rfl) ?_
        refine lv_if_eq (tgt := 738) hx hb (dc tbL_law_7_k 18 rfl) rfl (fun c16 => ?_) (fun c16 => ?_)
        · have hf := ite_t c16 hf
          refine lv_iconst (v := 0) hx hb (dc tbL_law_7_k 23 rfl) ic_0 ?_
          cases hf
        · have hf := ite_f c16 hf
          refine lv_dload hx hb (dc tbL_law_7_k 19 rfl) (lv_at hl 0 rfl) ?_
          refine lv_dload hx hb (dc tbL_law_7_k 20 rfl) (lv_at hl 0 rfl) ?_
          refine lv_dcmp hx hb (dc tbL_law_7_k 21 rfl) ?_
          refine lv_if_ne (tgt := 740) hx hb (dc tbL_law_7_k 22 rfl) rfl (fun c17 => ?_) (fun c17 => ?_)
          · have hf := ite_f c17 hf
            refine lv_goto (tgt := 2624) hx hb (dc tbL_law_7_k 25 rfl) rfl ?_
            cases hf
            refine W.widen (k := cells + 64) (n := slots + 512) (by omega) (by omega) ?_
            exact hk _ _ _ hI hJ (lv_sub hl [2, 3, 4, 5, 6, 7] rfl)
          · have hf := ite_t c17 hf
            refine lv_iconst (v := 0) hx hb (dc tbL_law_7_k 23 rfl) ic_0 ?_
            cases hf
  · have hf := ite_f c10 hf
    refine lv_iconst (v := 0) hx hb (dc tbL_law_7_k 1 rfl) ic_0 ?_
    cases hf
def mlc_11 (a1 a2 a3 a4 a5 : Int32) (M N : Mem) : Option (Mem × Mem) := cap (mX6_ratio 0 M) (fun r2 => cal (mX7_ratio 135 N) (fun N6 r5 => ite2 ((Op.cmpValue (FP.dcmp r2 r5) CmpOp.l) = 0) (some (M, N6)) (ite2 ((Op.cmpValue (FP.dcmp r2 r2) CmpOp.l) = 0) (none) (ite2 ((Op.cmpValue (FP.dcmp r5 r5) CmpOp.l) = 0) (none) (some (M, N6))))))
set_option maxHeartbeats 4000000 in
set_option maxRecDepth 100000 in
theorem lc_11 (C : Lx p l s m args meth c b L xs G kd kd' ad) (hc : cells + 64 ≤ 600002 ∧ slots + 512 ≤ 7302232) {x5 a0 a1 a2 a3 a4 a5 : Int32} (hs : Sc xs L x5 a0 a1 a2 a3 a4 a5) {M N M' N' : Mem} (hf : mlc_11 a1 a2 a3 a4 a5 M N = some (M', N')) (hk : AtW p l e s m args below meth c G kd kd' ad b x5 M' N' Q (cells + 64) (slots + 512) 2624) : AtW p l e s m args below meth c G kd kd' ad b x5 M N Q cells slots 743 := by
  intro H locs ls hI hJ hl
  obtain ⟨hx, hb, hml, hown, hts, hK, hap, hap2, hsx, hsx2, hnc, hst, hA, hd1, hd2, hX, hbl, hbA, hk0, hS, hk1, hk3, hk2⟩ := id C
  unfold mlc_11 at hf
  refine lv_aload_n hx hb (dc tbL_law_7_k 26 rfl) rfl (lv_at hl 1 rfl) ?_
  obtain ⟨r2, q1, hf⟩ := cap_s hf
  refine l_calld (g_runV hx hb hml hown hts hK hap hsx hI (tX6_ratio l hk0 q1 H.size) cv_X6_ratio q_t2_157 rfl rfl ⟨Nat.le_of_ble_eq_true rfl, Nat.le_of_ble_eq_true rfl⟩ hk0.1 (by simp) rfl rfl rfl hl.1 rfl (Nat.le_of_ble_eq_true rfl) (dc tbL_law_7_k 27 rfl) ⟨by have := hc.1; show _ ≤ 600002; omega, by have := hc.2; show _ ≤ 7302232; omega⟩) hI hJ hA hd1 (fun H locs hI hJ => ?_)
  refine lv_dstore (lv' := [(6, .double r2), (0, .ref b), (1, .ref (ad 0)), (2, .ref (ad 135)), (3, .ref (ad 152)), (4, .ref (ad 153)), (5, .int x5)]) hx hb (dc tbL_law_7_k 28 rfl) hl (by decide) rfl (fun ls hl => ?_)
  refine lv_aload_n hx hb (dc tbL_law_7_k 29 rfl) rfl (lv_at hl 3 rfl) ?_
  obtain ⟨N6, r5, q4, hf⟩ := cal_s hf
  refine l_calld (g_runV hx hb hml hown hts hK hap2 hsx2 hJ (tX7_ratio l hk2 q4 H.size) cv_X7_ratio q_t8_92 rfl rfl ⟨Nat.le_of_ble_eq_true rfl, Nat.le_of_ble_eq_true rfl⟩ hk2.1 (by simp) rfl rfl rfl hl.1 rfl (Nat.le_of_ble_eq_true rfl) (dc tbL_law_7_k 30 rfl) ⟨by have := hc.1; show _ ≤ 600002; omega, by have := hc.2; show _ ≤ 7302232; omega⟩) hJ hI hA.symm hd2 (fun H locs hJ hI => ?_)
  refine lv_dstore (lv' := [(8, .double r5), (6, .double r2), (0, .ref b), (1, .ref (ad 0)), (2, .ref (ad 135)), (3, .ref (ad 152)), (4, .ref (ad 153)), (5, .int x5)]) hx hb (dc tbL_law_7_k 31 rfl) hl (by decide) rfl (fun ls hl => ?_)
  refine lv_dload hx hb (dc tbL_law_7_k 32 rfl) (lv_at hl 1 rfl) ?_
  refine lv_dload hx hb (dc tbL_law_7_k 33 rfl) (lv_at hl 0 rfl) ?_
  refine lv_dcmp hx hb (dc tbL_law_7_k 34 rfl) ?_
  refine lv_if_eq (tgt := 781) hx hb (dc tbL_law_7_k 35 rfl) rfl (fun c7 => ?_) (fun c7 => ?_)
  · have hf := ite_t c7 hf
    refine lv_goto (tgt := 2624) hx hb (dc tbL_law_8_k 6 rfl) rfl ?_
    cases hf
    refine W.widen (k := cells + 64) (n := slots + 512) (by omega) (by omega) ?_
    exact hk _ _ _ hI hJ (lv_sub hl [2, 3, 4, 5, 6, 7] rfl)
  · have hf := ite_f c7 hf
    refine lv_dload hx hb (dc tbL_law_7_k 36 rfl) (lv_at hl 1 rfl) ?_
    refine lv_dload hx hb (dc tbL_law_7_k 37 rfl) (lv_at hl 1 rfl) ?_
    refine lv_dcmp hx hb (dc tbL_law_7_k 38 rfl) ?_
    refine lv_if_eq (tgt := 779) hx hb (dc tbL_law_7_k 39 rfl) rfl (fun c8 => ?_) (fun c8 => ?_)
    · have hf := ite_t c8 hf
      refine lv_iconst (v := 0) hx hb (dc tbL_law_8_k 4 rfl) ic_0 ?_
      cases hf
    · have hf := ite_f c8 hf
      refine lv_dload hx hb (dc tbL_law_8_k 0 rfl) (lv_at hl 0 rfl) ?_
      refine lv_dload hx hb (dc tbL_law_8_k 1 rfl) (lv_at hl 0 rfl) ?_
      refine lv_dcmp hx hb (dc tbL_law_8_k 2 rfl) ?_
      refine lv_if_ne (tgt := 781) hx hb (dc tbL_law_8_k 3 rfl) rfl (fun c9 => ?_) (fun c9 => ?_)
      · have hf := ite_f c9 hf
        refine lv_goto (tgt := 2624) hx hb (dc tbL_law_8_k 6 rfl) rfl ?_
        cases hf
        refine W.widen (k := cells + 64) (n := slots + 512) (by omega) (by omega) ?_
        exact hk _ _ _ hI hJ (lv_sub hl [2, 3, 4, 5, 6, 7] rfl)
      · have hf := ite_t c9 hf
        refine lv_iconst (v := 0) hx hb (dc tbL_law_8_k 4 rfl) ic_0 ?_
        cases hf
def mlc_12 (a1 a2 a3 a4 a5 : Int32) (M N : Mem) : Option (Mem × Mem) := cap (mX6_springBack 0 M) (fun r2 => cal (mX7_springBack 135 N) (fun N6 r5 => ite2 ((Op.cmpValue (FP.dcmp r2 r5) CmpOp.l) = 0) (some (M, N6)) (ite2 ((Op.cmpValue (FP.dcmp r2 r2) CmpOp.l) = 0) (none) (ite2 ((Op.cmpValue (FP.dcmp r5 r5) CmpOp.l) = 0) (none) (some (M, N6))))))
set_option maxHeartbeats 4000000 in
set_option maxRecDepth 100000 in
theorem lc_12 (C : Lx p l s m args meth c b L xs G kd kd' ad) (hc : cells + 64 ≤ 600002 ∧ slots + 512 ≤ 7302232) {x5 a0 a1 a2 a3 a4 a5 : Int32} (hs : Sc xs L x5 a0 a1 a2 a3 a4 a5) {M N M' N' : Mem} (hf : mlc_12 a1 a2 a3 a4 a5 M N = some (M', N')) (hk : AtW p l e s m args below meth c G kd kd' ad b x5 M' N' Q (cells + 64) (slots + 512) 2624) : AtW p l e s m args below meth c G kd kd' ad b x5 M N Q cells slots 784 := by
  intro H locs ls hI hJ hl
  obtain ⟨hx, hb, hml, hown, hts, hK, hap, hap2, hsx, hsx2, hnc, hst, hA, hd1, hd2, hX, hbl, hbA, hk0, hS, hk1, hk3, hk2⟩ := id C
  unfold mlc_12 at hf
  refine lv_aload_n hx hb (dc tbL_law_8_k 7 rfl) rfl (lv_at hl 1 rfl) ?_
  obtain ⟨r2, q1, hf⟩ := cap_s hf
  refine l_calld (g_runV hx hb hml hown hts hK hap hsx hI (tX6_springBack l hk0 q1 H.size) cv_X6_springBack q_t2_166 rfl rfl ⟨Nat.le_of_ble_eq_true rfl, Nat.le_of_ble_eq_true rfl⟩ hk0.1 (by simp) rfl rfl rfl hl.1 rfl (Nat.le_of_ble_eq_true rfl) (dc tbL_law_8_k 8 rfl) ⟨by have := hc.1; show _ ≤ 600002; omega, by have := hc.2; show _ ≤ 7302232; omega⟩) hI hJ hA hd1 (fun H locs hI hJ => ?_)
  refine lv_dstore (lv' := [(6, .double r2), (0, .ref b), (1, .ref (ad 0)), (2, .ref (ad 135)), (3, .ref (ad 152)), (4, .ref (ad 153)), (5, .int x5)]) hx hb (dc tbL_law_8_k 9 rfl) hl (by decide) rfl (fun ls hl => ?_)
  refine lv_aload_n hx hb (dc tbL_law_8_k 10 rfl) rfl (lv_at hl 3 rfl) ?_
  obtain ⟨N6, r5, q4, hf⟩ := cal_s hf
  refine l_calld (g_runV hx hb hml hown hts hK hap2 hsx2 hJ (tX7_springBack l hk2 q4 H.size) cv_X7_springBack q_t8_101 rfl rfl ⟨Nat.le_of_ble_eq_true rfl, Nat.le_of_ble_eq_true rfl⟩ hk2.1 (by simp) rfl rfl rfl hl.1 rfl (Nat.le_of_ble_eq_true rfl) (dc tbL_law_8_k 11 rfl) ⟨by have := hc.1; show _ ≤ 600002; omega, by have := hc.2; show _ ≤ 7302232; omega⟩) hJ hI hA.symm hd2 (fun H locs hJ hI => ?_)
  refine lv_dstore (lv' := [(8, .double r5), (6, .double r2), (0, .ref b), (1, .ref (ad 0)), (2, .ref (ad 135)), (3, .ref (ad 152)), (4, .ref (ad 153)), (5, .int x5)]) hx hb (dc tbL_law_8_k 12 rfl) hl (by decide) rfl (fun ls hl => ?_)
  refine lv_dload hx hb (dc tbL_law_8_k 13 rfl) (lv_at hl 1 rfl) ?_
  refine lv_dload hx hb (dc tbL_law_8_k 14 rfl) (lv_at hl 0 rfl) ?_
  refine lv_dcmp hx hb (dc tbL_law_8_k 15 rfl) ?_
  refine lv_if_eq (tgt := 822) hx hb (dc tbL_law_8_k 16 rfl) rfl (fun c7 => ?_) (fun c7 => ?_)
  · have hf := ite_t c7 hf
    refine lv_goto (tgt := 2624) hx hb (dc tbL_law_8_k 27 rfl) rfl ?_
    cases hf
    refine W.widen (k := cells + 64) (n := slots + 512) (by omega) (by omega) ?_
    exact hk _ _ _ hI hJ (lv_sub hl [2, 3, 4, 5, 6, 7] rfl)
  · have hf := ite_f c7 hf
    refine lv_dload hx hb (dc tbL_law_8_k 17 rfl) (lv_at hl 1 rfl) ?_
    refine lv_dload hx hb (dc tbL_law_8_k 18 rfl) (lv_at hl 1 rfl) ?_
    refine lv_dcmp hx hb (dc tbL_law_8_k 19 rfl) ?_
    refine lv_if_eq (tgt := 820) hx hb (dc tbL_law_8_k 20 rfl) rfl (fun c8 => ?_) (fun c8 => ?_)
    · have hf := ite_t c8 hf
      refine lv_iconst (v := 0) hx hb (dc tbL_law_8_k 25 rfl) ic_0 ?_
      cases hf
    · have hf := ite_f c8 hf
      refine lv_dload hx hb (dc tbL_law_8_k 21 rfl) (lv_at hl 0 rfl) ?_
      refine lv_dload hx hb (dc tbL_law_8_k 22 rfl) (lv_at hl 0 rfl) ?_
      refine lv_dcmp hx hb (dc tbL_law_8_k 23 rfl) ?_
      refine lv_if_ne (tgt := 822) hx hb (dc tbL_law_8_k 24 rfl) rfl (fun c9 => ?_) (fun c9 => ?_)
      · have hf := ite_f c9 hf
        refine lv_goto (tgt := 2624) hx hb (dc tbL_law_8_k 27 rfl) rfl ?_
        cases hf
        refine W.widen (k := cells + 64) (n := slots + 512) (by omega) (by omega) ?_
        exact hk _ _ _ hI hJ (lv_sub hl [2, 3, 4, 5, 6, 7] rfl)
      · have hf := ite_t c9 hf
        refine lv_iconst (v := 0) hx hb (dc tbL_law_8_k 25 rfl) ic_0 ?_
        cases hf
def mlc_13 (a1 a2 a3 a4 a5 : Int32) (M N : Mem) : Option (Mem × Mem) := chk (n64b (FP.dmul (FP.i2d a1) (4593671619917905920 : UInt64))) (calh (mL_springBackFor 0 153 (FP.dmul (FP.i2d a1) (4593671619917905920 : UInt64)) M) (fun M4 r3 => chk (n64b (FP.dmul (FP.i2d a1) (4593671619917905920 : UInt64))) (cal (mX7_springBackFor 135 (FP.dmul (FP.i2d a1) (4593671619917905920 : UInt64)) N) (fun N8 r7 => cap (mX7_thrown 135 N8) (fun r10 => ite2 (r10 = r3) (ite2 (r3 = 0) (chk (okb (0 : Int32) 1) (ite2 ((Op.cmpValue (FP.dcmp (M4.2.2 153 ((0 : Int32)).toNatClampNeg) r7) CmpOp.l) = 0) (some (M4, N8)) (chk (okb (0 : Int32) 1) (chk (okb (0 : Int32) 1) (ite2 ((Op.cmpValue (FP.dcmp (M4.2.2 153 ((0 : Int32)).toNatClampNeg) (M4.2.2 153 ((0 : Int32)).toNatClampNeg)) CmpOp.l) = 0) (none) (ite2 ((Op.cmpValue (FP.dcmp r7 r7) CmpOp.l) = 0) (none) (some (M4, N8)))))))) (some (M4, N8))) (none))))))
set_option maxHeartbeats 4000000 in
set_option maxRecDepth 100000 in
theorem lc_13 (C : Lx p l s m args meth c b L xs G kd kd' ad) (hc : cells + 64 ≤ 600002 ∧ slots + 512 ≤ 7302232) {x5 a0 a1 a2 a3 a4 a5 : Int32} (hs : Sc xs L x5 a0 a1 a2 a3 a4 a5) {M N M' N' : Mem} (hf : mlc_13 a1 a2 a3 a4 a5 M N = some (M', N')) (hk : AtW p l e s m args below meth c G kd kd' ad b x5 M' N' Q (cells + 64) (slots + 512) 2624) : AtW p l e s m args below meth c G kd kd' ad b x5 M N Q cells slots 825 := by
  intro H locs ls hI hJ hl
  obtain ⟨hx, hb, hml, hown, hts, hK, hap, hap2, hsx, hsx2, hnc, hst, hA, hd1, hd2, hX, hbl, hbA, hk0, hS, hk1, hk3, hk2⟩ := id C
  unfold mlc_13 at hf
  refine lv_aload_n hx hb (dc tbL_law_8_k 28 rfl) rfl (lv_at hl 1 rfl) ?_
  refine lv_aload_n hx hb (dc tbL_law_8_k 29 rfl) rfl (lv_at hl 0 rfl) ?_
  refine lv_iload hx hb (dc tbL_law_8_k 30 rfl) (lv_at hl 5 rfl) ?_
  refine lv_iconst (v := 1) hx hb (dc tbL_law_8_k 31 rfl) ic_1 ?_
  refine lv_iadd hx hb (dc tbL_law_8_k 32 rfl) ?_
  refine l_sld hx hb hX hbl hbA hI hs.2.1.1 hs.2.1.2 (dc tbL_law_8_k 33 rfl) ?_
  refine lv_i2d hx hb (dc tbL_law_8_k 34 rfl) ?_
  refine lv_ldc2d hx hb hown (hts _ q_t10_20) (dc tbL_law_8_k 35 rfl) ?_
  obtain ⟨h1, hf⟩ := chk_s hf
  refine lv_dmul hx hb (dc tbL_law_8_k 36 rfl) (n64_b h1) ?_
  refine lv_aload hx hb (dc tbL_law_8_k 37 rfl) (lv_at hl 4 rfl) ?_
  obtain ⟨M4, r3, q2, hf⟩ := calh_s hf
  refine l_callH (g_runH hx hb hml hown hts hK hap hsx hnc hI (tL_springBackFor l hst hk0 hk3 q2 H.size) ch_L_springBackFor q_t6_52 rfl rfl ⟨Nat.le_of_ble_eq_true rfl, Nat.le_of_ble_eq_true rfl⟩ rfl hl.1 rfl (Nat.le_of_ble_eq_true rfl) (dc tbL_law_8_k 38 rfl) ⟨by have := hc.1; show _ ≤ 600002; omega, by have := hc.2; show _ ≤ 7302232; omega⟩) hI hJ hA hd1 (fun H locs hI hJ => ?_)
  refine lv_istore (lv' := [(6, .int r3), (0, .ref b), (1, .ref (ad 0)), (2, .ref (ad 135)), (3, .ref (ad 152)), (4, .ref (ad 153)), (5, .int x5)]) hx hb (dc tbL_law_8_k 39 rfl) hl (by decide) rfl (fun ls hl => ?_)
  refine lv_aload_n hx hb (dc tbL_law_9_k 0 rfl) rfl (lv_at hl 3 rfl) ?_
  refine lv_aload_n hx hb (dc tbL_law_9_k 1 rfl) rfl (lv_at hl 1 rfl) ?_
  refine lv_iload hx hb (dc tbL_law_9_k 2 rfl) (lv_at hl 6 rfl) ?_
  refine lv_iconst (v := 1) hx hb (dc tbL_law_9_k 3 rfl) ic_1 ?_
  refine lv_iadd hx hb (dc tbL_law_9_k 4 rfl) ?_
  refine l_sld hx hb hX hbl hbA hI hs.2.1.1 hs.2.1.2 (dc tbL_law_9_k 5 rfl) ?_
  refine lv_i2d hx hb (dc tbL_law_9_k 6 rfl) ?_
  refine lv_ldc2d hx hb hown (hts _ q_t10_20) (dc tbL_law_9_k 7 rfl) ?_
  obtain ⟨h5, hf⟩ := chk_s hf
  refine lv_dmul hx hb (dc tbL_law_9_k 8 rfl) (n64_b h5) ?_
  obtain ⟨N8, r7, q6, hf⟩ := cal_s hf
  refine l_calld (g_runV hx hb hml hown hts hK hap2 hsx2 hJ (tX7_springBackFor l hk2 q6 H.size) cv_X7_springBackFor q_t8_117 rfl rfl ⟨Nat.le_of_ble_eq_true rfl, Nat.le_of_ble_eq_true rfl⟩ hk2.1 (by simp) rfl rfl rfl hl.1 rfl (Nat.le_of_ble_eq_true rfl) (dc tbL_law_9_k 9 rfl) ⟨by have := hc.1; show _ ≤ 600002; omega, by have := hc.2; show _ ≤ 7302232; omega⟩) hJ hI hA.symm hd2 (fun H locs hJ hI => ?_)
  refine lv_dstore (lv' := [(7, .double r7), (6, .int r3), (0, .ref b), (1, .ref (ad 0)), (2, .ref (ad 135)), (3, .ref (ad 152)), (4, .ref (ad 153)), (5, .int x5)]) hx hb (dc tbL_law_9_k 10 rfl) hl (by decide) rfl (fun ls hl => ?_)
  refine lv_aload_n hx hb (dc tbL_law_9_k 11 rfl) rfl (lv_at hl 4 rfl) ?_
  obtain ⟨r10, q9, hf⟩ := cap_s hf
  refine l_calli (g_runV hx hb hml hown hts hK hap2 hsx2 hJ (tX7_thrown l hk2 q9 H.size) cv_X7_thrown q_t7_170 rfl rfl ⟨Nat.le_of_ble_eq_true rfl, Nat.le_of_ble_eq_true rfl⟩ hk2.1 (by simp) rfl rfl rfl hl.1 rfl (Nat.le_of_ble_eq_true rfl) (dc tbL_law_9_k 12 rfl) ⟨by have := hc.1; show _ ≤ 600002; omega, by have := hc.2; show _ ≤ 7302232; omega⟩) hJ hI hA.symm hd2 (fun H locs hJ hI => ?_)
  refine lv_iload hx hb (dc tbL_law_9_k 13 rfl) (lv_at hl 1 rfl) ?_
  refine lv_icmp_eq (tgt := 872) hx hb (dc tbL_law_9_k 14 rfl) rfl (fun c12 => ?_) (fun c12 => ?_)
  · have hf := ite_t c12 hf
    refine lv_iload hx hb (dc tbL_law_9_k 17 rfl) (lv_at hl 1 rfl) ?_
    refine lv_if_ne (tgt := 909) hx hb (dc tbL_law_9_k 18 rfl) rfl (fun c13 => ?_) (fun c13 => ?_)
    · have hf := ite_f c13 hf
      refine lv_goto (tgt := 2624) hx hb (dc tbL_law_9_k 39 rfl) rfl ?_
      cases hf
      refine W.widen (k := cells + 64) (n := slots + 512) (by omega) (by omega) ?_
      exact hk _ _ _ hI hJ (lv_sub hl [2, 3, 4, 5, 6, 7] rfl)
    · have hf := ite_t c13 hf
      refine lv_aload hx hb (dc tbL_law_9_k 19 rfl) (lv_at hl 6 rfl) ?_
      refine lv_iconst (v := 0) hx hb (dc tbL_law_9_k 20 rfl) ic_0 ?_
      obtain ⟨h14, hf⟩ := chk_s hf
      refine g_dald hx hb hK hI hk3 (okb_in h14) (dc tbL_law_9_k 21 rfl) ?_
      refine lv_dload hx hb (dc tbL_law_9_k 22 rfl) (lv_at hl 0 rfl) ?_
      refine lv_dcmp hx hb (dc tbL_law_9_k 23 rfl) ?_
      refine lv_if_eq (tgt := 909) hx hb (dc tbL_law_9_k 24 rfl) rfl (fun c15 => ?_) (fun c15 => ?_)
      · have hf := ite_t c15 hf
        refine lv_goto (tgt := 2624) hx hb (dc tbL_law_9_k 39 rfl) rfl ?_
        cases hf
        refine W.widen (k := cells + 64) (n := slots + 512) (by omega) (by omega) ?_
        exact hk _ _ _ hI hJ (lv_sub hl [2, 3, 4, 5, 6, 7] rfl)
      · have hf := ite_f c15 hf
        refine lv_aload hx hb (dc tbL_law_9_k 25 rfl) (lv_at hl 6 rfl) ?_
        refine lv_iconst (v := 0) hx hb (dc tbL_law_9_k 26 rfl) ic_0 ?_
        obtain ⟨h16, hf⟩ := chk_s hf
        refine g_dald hx hb hK hI hk3 (okb_in h16) (dc tbL_law_9_k 27 rfl) ?_
        refine lv_aload hx hb (dc tbL_law_9_k 28 rfl) (lv_at hl 6 rfl) ?_
        refine lv_iconst (v := 0) hx hb (dc tbL_law_9_k 29 rfl) ic_0 ?_
        obtain ⟨h17, hf⟩ := chk_s hf
        refine g_dald hx hb hK hI hk3 (okb_in h17) (dc tbL_law_9_k 30 rfl) ?_
        refine lv_dcmp hx hb (dc tbL_law_9_k 31 rfl) ?_
        refine lv_if_eq (tgt := 907) hx hb (dc tbL_law_9_k 32 rfl) rfl (fun c18 => ?_) (fun c18 => ?_)
        · have hf := ite_t c18 hf
          refine lv_iconst (v := 0) hx hb (dc tbL_law_9_k 37 rfl) ic_0 ?_
          cases hf
        · have hf := ite_f c18 hf
          refine lv_dload hx hb (dc tbL_law_9_k 33 rfl) (lv_at hl 0 rfl) ?_
          refine lv_dload hx hb (dc tbL_law_9_k 34 rfl) (lv_at hl 0 rfl) ?_
          refine lv_dcmp hx hb (dc tbL_law_9_k 35 rfl) ?_
          refine lv_if_ne (tgt := 909) hx hb (dc tbL_law_9_k 36 rfl) rfl (fun c19 => ?_) (fun c19 => ?_)
          · have hf := ite_f c19 hf
            refine lv_goto (tgt := 2624) hx hb (dc tbL_law_9_k 39 rfl) rfl ?_
            cases hf
            refine W.widen (k := cells + 64) (n := slots + 512) (by omega) (by omega) ?_
            exact hk _ _ _ hI hJ (lv_sub hl [2, 3, 4, 5, 6, 7] rfl)
          · have hf := ite_t c19 hf
            refine lv_iconst (v := 0) hx hb (dc tbL_law_9_k 37 rfl) ic_0 ?_
            cases hf
  · have hf := ite_f c12 hf
    refine lv_iconst (v := 0) hx hb (dc tbL_law_9_k 15 rfl) ic_0 ?_
    cases hf
def mlc_14 (a1 a2 a3 a4 a5 : Int32) (M N : Mem) : Option (Mem × Mem) := cap (mX6_swingAngle 0 M) (fun r2 => cal (mX7_swingAngle 135 N) (fun N6 r5 => ite2 (r2 = r5) (some (M, N6)) (none)))
set_option maxHeartbeats 4000000 in
set_option maxRecDepth 100000 in
theorem lc_14 (C : Lx p l s m args meth c b L xs G kd kd' ad) (hc : cells + 64 ≤ 600002 ∧ slots + 512 ≤ 7302232) {x5 a0 a1 a2 a3 a4 a5 : Int32} (hs : Sc xs L x5 a0 a1 a2 a3 a4 a5) {M N M' N' : Mem} (hf : mlc_14 a1 a2 a3 a4 a5 M N = some (M', N')) (hk : AtW p l e s m args below meth c G kd kd' ad b x5 M' N' Q (cells + 64) (slots + 512) 2624) : AtW p l e s m args below meth c G kd kd' ad b x5 M N Q cells slots 912 := by
  intro H locs ls hI hJ hl
  obtain ⟨hx, hb, hml, hown, hts, hK, hap, hap2, hsx, hsx2, hnc, hst, hA, hd1, hd2, hX, hbl, hbA, hk0, hS, hk1, hk3, hk2⟩ := id C
  unfold mlc_14 at hf
  refine lv_aload_n hx hb (dc tbL_law_10_k 0 rfl) rfl (lv_at hl 1 rfl) ?_
  obtain ⟨r2, q1, hf⟩ := cap_s hf
  refine l_calli (g_runV hx hb hml hown hts hK hap hsx hI (tX6_swingAngle l hk0 q1 H.size) cv_X6_swingAngle q_t2_178 rfl rfl ⟨Nat.le_of_ble_eq_true rfl, Nat.le_of_ble_eq_true rfl⟩ hk0.1 (by simp) rfl rfl rfl hl.1 rfl (Nat.le_of_ble_eq_true rfl) (dc tbL_law_10_k 1 rfl) ⟨by have := hc.1; show _ ≤ 600002; omega, by have := hc.2; show _ ≤ 7302232; omega⟩) hI hJ hA hd1 (fun H locs hI hJ => ?_)
  refine lv_aload_n hx hb (dc tbL_law_10_k 2 rfl) rfl (lv_at hl 2 rfl) ?_
  obtain ⟨N6, r5, q4, hf⟩ := cal_s hf
  refine l_calli (g_runV hx hb hml hown hts hK hap2 hsx2 hJ (tX7_swingAngle l hk2 q4 H.size) cv_X7_swingAngle q_t8_122 rfl rfl ⟨Nat.le_of_ble_eq_true rfl, Nat.le_of_ble_eq_true rfl⟩ hk2.1 (by simp) rfl rfl rfl hl.1 rfl (Nat.le_of_ble_eq_true rfl) (dc tbL_law_10_k 3 rfl) ⟨by have := hc.1; show _ ≤ 600002; omega, by have := hc.2; show _ ≤ 7302232; omega⟩) hJ hI hA.symm hd2 (fun H locs hJ hI => ?_)
  refine lv_icmp_eq (tgt := 2624) hx hb (dc tbL_law_10_k 4 rfl) rfl (fun c7 => ?_) (fun c7 => ?_)
  · have hf := ite_t c7 hf
    cases hf
    refine W.widen (k := cells + 64) (n := slots + 512) (by omega) (by omega) ?_
    exact hk _ _ _ hI hJ (lv_sub hl [0, 1, 2, 3, 4, 5] rfl)
  · have hf := ite_f c7 hf
    refine lv_iconst (v := 0) hx hb (dc tbL_law_10_k 5 rfl) ic_0 ?_
    cases hf
def mlc_15 (a1 a2 a3 a4 a5 : Int32) (M N : Mem) : Option (Mem × Mem) := calh (mL_tool 0 152 a1 a2 M) (fun M3 r2 => cal (mX7_tool 135 a1 a2 N) (fun N6 r5 => cap (mX7_thrown 135 N6) (fun r8 => ite2 (r8 = r2) (ite2 (r2 = 0) (chk (okb (0 : Int32) 1) (ite2 ((lg_cmp (rl M3 152 ((0 : Int32)).toNatClampNeg) (r5).toInt64) = 0) (some (M3, N6)) (none))) (some (M3, N6))) (none))))
set_option maxHeartbeats 4000000 in
set_option maxRecDepth 100000 in
theorem lc_15 (C : Lx p l s m args meth c b L xs G kd kd' ad) (hc : cells + 64 ≤ 600002 ∧ slots + 512 ≤ 7302232) {x5 a0 a1 a2 a3 a4 a5 : Int32} (hs : Sc xs L x5 a0 a1 a2 a3 a4 a5) {M N M' N' : Mem} (hf : mlc_15 a1 a2 a3 a4 a5 M N = some (M', N')) (hk : AtW p l e s m args below meth c G kd kd' ad b x5 M' N' Q (cells + 64) (slots + 512) 2624) : AtW p l e s m args below meth c G kd kd' ad b x5 M N Q cells slots 925 := by
  intro H locs ls hI hJ hl
  obtain ⟨hx, hb, hml, hown, hts, hK, hap, hap2, hsx, hsx2, hnc, hst, hA, hd1, hd2, hX, hbl, hbA, hk0, hS, hk1, hk3, hk2⟩ := id C
  unfold mlc_15 at hf
  refine lv_aload_n hx hb (dc tbL_law_10_k 7 rfl) rfl (lv_at hl 1 rfl) ?_
  refine lv_aload_n hx hb (dc tbL_law_10_k 8 rfl) rfl (lv_at hl 0 rfl) ?_
  refine lv_iload hx hb (dc tbL_law_10_k 9 rfl) (lv_at hl 5 rfl) ?_
  refine lv_iconst (v := 1) hx hb (dc tbL_law_10_k 10 rfl) ic_1 ?_
  refine lv_iadd hx hb (dc tbL_law_10_k 11 rfl) ?_
  refine l_sld hx hb hX hbl hbA hI hs.2.1.1 hs.2.1.2 (dc tbL_law_10_k 12 rfl) ?_
  refine lv_aload_n hx hb (dc tbL_law_10_k 13 rfl) rfl (lv_at hl 0 rfl) ?_
  refine lv_iload hx hb (dc tbL_law_10_k 14 rfl) (lv_at hl 5 rfl) ?_
  refine lv_iconst (v := 2) hx hb (dc tbL_law_10_k 15 rfl) ic_2 ?_
  refine lv_iadd hx hb (dc tbL_law_10_k 16 rfl) ?_
  refine l_sld hx hb hX hbl hbA hI hs.2.2.1.1 hs.2.2.1.2 (dc tbL_law_10_k 17 rfl) ?_
  refine lv_aload_n hx hb (dc tbL_law_10_k 18 rfl) rfl (lv_at hl 3 rfl) ?_
  obtain ⟨M3, r2, q1, hf⟩ := calh_s hf
  refine l_callH (g_runH hx hb hml hown hts hK hap hsx hnc hI (tL_tool l hst hk0 hk1 q1 H.size) ch_L_tool q_t6_61 rfl rfl ⟨Nat.le_of_ble_eq_true rfl, Nat.le_of_ble_eq_true rfl⟩ rfl hl.1 rfl (Nat.le_of_ble_eq_true rfl) (dc tbL_law_10_k 19 rfl) ⟨by have := hc.1; show _ ≤ 600002; omega, by have := hc.2; show _ ≤ 7302232; omega⟩) hI hJ hA hd1 (fun H locs hI hJ => ?_)
  refine lv_istore (lv' := [(6, .int r2), (0, .ref b), (1, .ref (ad 0)), (2, .ref (ad 135)), (3, .ref (ad 152)), (4, .ref (ad 153)), (5, .int x5)]) hx hb (dc tbL_law_10_k 20 rfl) hl (by decide) rfl (fun ls hl => ?_)
  refine lv_aload_n hx hb (dc tbL_law_10_k 21 rfl) rfl (lv_at hl 3 rfl) ?_
  refine lv_aload_n hx hb (dc tbL_law_10_k 22 rfl) rfl (lv_at hl 1 rfl) ?_
  refine lv_iload hx hb (dc tbL_law_10_k 23 rfl) (lv_at hl 6 rfl) ?_
  refine lv_iconst (v := 1) hx hb (dc tbL_law_10_k 24 rfl) ic_1 ?_
  refine lv_iadd hx hb (dc tbL_law_10_k 25 rfl) ?_
  refine l_sld hx hb hX hbl hbA hI hs.2.1.1 hs.2.1.2 (dc tbL_law_10_k 26 rfl) ?_
  refine lv_aload_n hx hb (dc tbL_law_10_k 27 rfl) rfl (lv_at hl 1 rfl) ?_
  refine lv_iload hx hb (dc tbL_law_10_k 28 rfl) (lv_at hl 6 rfl) ?_
  refine lv_iconst (v := 2) hx hb (dc tbL_law_10_k 29 rfl) ic_2 ?_
  refine lv_iadd hx hb (dc tbL_law_10_k 30 rfl) ?_
  refine l_sld hx hb hX hbl hbA hI hs.2.2.1.1 hs.2.2.1.2 (dc tbL_law_10_k 31 rfl) ?_
  obtain ⟨N6, r5, q4, hf⟩ := cal_s hf
  refine l_calli (g_runV hx hb hml hown hts hK hap2 hsx2 hJ (tX7_tool l hk2 q4 H.size) cv_X7_tool q_t8_127 rfl rfl ⟨Nat.le_of_ble_eq_true rfl, Nat.le_of_ble_eq_true rfl⟩ hk2.1 (by simp) rfl rfl rfl hl.1 rfl (Nat.le_of_ble_eq_true rfl) (dc tbL_law_10_k 32 rfl) ⟨by have := hc.1; show _ ≤ 600002; omega, by have := hc.2; show _ ≤ 7302232; omega⟩) hJ hI hA.symm hd2 (fun H locs hJ hI => ?_)
  refine lv_istore (lv' := [(7, .int r5), (6, .int r2), (0, .ref b), (1, .ref (ad 0)), (2, .ref (ad 135)), (3, .ref (ad 152)), (4, .ref (ad 153)), (5, .int x5)]) hx hb (dc tbL_law_10_k 33 rfl) hl (by decide) rfl (fun ls hl => ?_)
  refine lv_aload_n hx hb (dc tbL_law_10_k 34 rfl) rfl (lv_at hl 4 rfl) ?_
  obtain ⟨r8, q7, hf⟩ := cap_s hf
  refine l_calli (g_runV hx hb hml hown hts hK hap2 hsx2 hJ (tX7_thrown l hk2 q7 H.size) cv_X7_thrown q_t7_170 rfl rfl ⟨Nat.le_of_ble_eq_true rfl, Nat.le_of_ble_eq_true rfl⟩ hk2.1 (by simp) rfl rfl rfl hl.1 rfl (Nat.le_of_ble_eq_true rfl) (dc tbL_law_10_k 35 rfl) ⟨by have := hc.1; show _ ≤ 600002; omega, by have := hc.2; show _ ≤ 7302232; omega⟩) hJ hI hA.symm hd2 (fun H locs hJ hI => ?_)
  refine lv_iload hx hb (dc tbL_law_10_k 36 rfl) (lv_at hl 1 rfl) ?_
  refine lv_icmp_eq (tgt := 973) hx hb (dc tbL_law_10_k 37 rfl) rfl (fun c10 => ?_) (fun c10 => ?_)
  · have hf := ite_t c10 hf
    refine lv_iload hx hb (dc tbL_law_11_k 0 rfl) (lv_at hl 1 rfl) ?_
    refine lv_if_ne (tgt := 990) hx hb (dc tbL_law_11_k 1 rfl) rfl (fun c11 => ?_) (fun c11 => ?_)
    · have hf := ite_f c11 hf
      refine lv_goto (tgt := 2624) hx hb (dc tbL_law_11_k 11 rfl) rfl ?_
      cases hf
      refine W.widen (k := cells + 64) (n := slots + 512) (by omega) (by omega) ?_
      exact hk _ _ _ hI hJ (lv_sub hl [2, 3, 4, 5, 6, 7] rfl)
    · have hf := ite_t c11 hf
      refine lv_aload_n hx hb (dc tbL_law_11_k 2 rfl) rfl (lv_at hl 5 rfl) ?_
      refine lv_iconst (v := 0) hx hb (dc tbL_law_11_k 3 rfl) ic_0 ?_
      obtain ⟨h12, hf⟩ := chk_s hf
      refine g_lald hx hb hK hI hk1 (okb_in h12) (dc tbL_law_11_k 4 rfl) ?_
      refine lv_iload hx hb (dc tbL_law_11_k 5 rfl) (lv_at hl 0 rfl) ?_
      refine lv_i2l hx hb (dc tbL_law_11_k 6 rfl) rfl ?_
      refine W.lcmp hx hb (dc tbL_law_11_k 7 rfl) ?_
      refine lv_if_eq (tgt := 990) hx hb (dc tbL_law_11_k 8 rfl) rfl (fun c13 => ?_) (fun c13 => ?_)
      · have hf := ite_t c13 hf
        refine lv_goto (tgt := 2624) hx hb (dc tbL_law_11_k 11 rfl) rfl ?_
        cases hf
        refine W.widen (k := cells + 64) (n := slots + 512) (by omega) (by omega) ?_
        exact hk _ _ _ hI hJ (lv_sub hl [2, 3, 4, 5, 6, 7] rfl)
      · have hf := ite_f c13 hf
        refine lv_iconst (v := 0) hx hb (dc tbL_law_11_k 9 rfl) ic_0 ?_
        cases hf
  · have hf := ite_f c10 hf
    refine lv_iconst (v := 0) hx hb (dc tbL_law_10_k 38 rfl) ic_0 ?_
    cases hf
def mlc_16 (a1 a2 a3 a4 a5 : Int32) (M N : Mem) : Option (Mem × Mem) := cal (mX6_finishedWidth 0 M) (fun M3 r2 => cal (mX7_finishedWidth 135 N) (fun N6 r5 => ite2 (r2 = r5) (some (M3, N6)) (none)))
set_option maxHeartbeats 4000000 in
set_option maxRecDepth 100000 in
theorem lc_16 (C : Lx p l s m args meth c b L xs G kd kd' ad) (hc : cells + 64 ≤ 600002 ∧ slots + 512 ≤ 7302232) {x5 a0 a1 a2 a3 a4 a5 : Int32} (hs : Sc xs L x5 a0 a1 a2 a3 a4 a5) {M N M' N' : Mem} (hf : mlc_16 a1 a2 a3 a4 a5 M N = some (M', N')) (hk : AtW p l e s m args below meth c G kd kd' ad b x5 M' N' Q (cells + 64) (slots + 512) 2624) : AtW p l e s m args below meth c G kd kd' ad b x5 M N Q cells slots 993 := by
  intro H locs ls hI hJ hl
  obtain ⟨hx, hb, hml, hown, hts, hK, hap, hap2, hsx, hsx2, hnc, hst, hA, hd1, hd2, hX, hbl, hbA, hk0, hS, hk1, hk3, hk2⟩ := id C
  unfold mlc_16 at hf
  refine lv_aload_n hx hb (dc tbL_law_11_k 12 rfl) rfl (lv_at hl 1 rfl) ?_
  obtain ⟨M3, r2, q1, hf⟩ := cal_s hf
  refine l_calli (g_runV hx hb hml hown hts hK hap hsx hI (tX6_finishedWidth l hk0 q1 H.size) cv_X6_finishedWidth q_t2_182 rfl rfl ⟨Nat.le_of_ble_eq_true rfl, Nat.le_of_ble_eq_true rfl⟩ hk0.1 (by simp) rfl rfl rfl hl.1 rfl (Nat.le_of_ble_eq_true rfl) (dc tbL_law_11_k 13 rfl) ⟨by have := hc.1; show _ ≤ 600002; omega, by have := hc.2; show _ ≤ 7302232; omega⟩) hI hJ hA hd1 (fun H locs hI hJ => ?_)
  refine lv_aload_n hx hb (dc tbL_law_11_k 14 rfl) rfl (lv_at hl 2 rfl) ?_
  obtain ⟨N6, r5, q4, hf⟩ := cal_s hf
  refine l_calli (g_runV hx hb hml hown hts hK hap2 hsx2 hJ (tX7_finishedWidth l hk2 q4 H.size) cv_X7_finishedWidth q_t8_147 rfl rfl ⟨Nat.le_of_ble_eq_true rfl, Nat.le_of_ble_eq_true rfl⟩ hk2.1 (by simp) rfl rfl rfl hl.1 rfl (Nat.le_of_ble_eq_true rfl) (dc tbL_law_11_k 15 rfl) ⟨by have := hc.1; show _ ≤ 600002; omega, by have := hc.2; show _ ≤ 7302232; omega⟩) hJ hI hA.symm hd2 (fun H locs hJ hI => ?_)
  refine lv_icmp_eq (tgt := 2624) hx hb (dc tbL_law_11_k 16 rfl) rfl (fun c7 => ?_) (fun c7 => ?_)
  · have hf := ite_t c7 hf
    cases hf
    refine W.widen (k := cells + 64) (n := slots + 512) (by omega) (by omega) ?_
    exact hk _ _ _ hI hJ (lv_sub hl [0, 1, 2, 3, 4, 5] rfl)
  · have hf := ite_f c7 hf
    refine lv_iconst (v := 0) hx hb (dc tbL_law_11_k 17 rfl) ic_0 ?_
    cases hf
def mlc_17 (a1 a2 a3 a4 a5 : Int32) (M N : Mem) : Option (Mem × Mem) := cal (mX6_finishedHeight 0 M) (fun M3 r2 => cal (mX7_finishedHeight 135 N) (fun N6 r5 => ite2 (r2 = r5) (some (M3, N6)) (none)))
set_option maxHeartbeats 4000000 in
set_option maxRecDepth 100000 in
theorem lc_17 (C : Lx p l s m args meth c b L xs G kd kd' ad) (hc : cells + 64 ≤ 600002 ∧ slots + 512 ≤ 7302232) {x5 a0 a1 a2 a3 a4 a5 : Int32} (hs : Sc xs L x5 a0 a1 a2 a3 a4 a5) {M N M' N' : Mem} (hf : mlc_17 a1 a2 a3 a4 a5 M N = some (M', N')) (hk : AtW p l e s m args below meth c G kd kd' ad b x5 M' N' Q (cells + 64) (slots + 512) 2624) : AtW p l e s m args below meth c G kd kd' ad b x5 M N Q cells slots 1006 := by
  intro H locs ls hI hJ hl
  obtain ⟨hx, hb, hml, hown, hts, hK, hap, hap2, hsx, hsx2, hnc, hst, hA, hd1, hd2, hX, hbl, hbA, hk0, hS, hk1, hk3, hk2⟩ := id C
  unfold mlc_17 at hf
  refine lv_aload_n hx hb (dc tbL_law_11_k 19 rfl) rfl (lv_at hl 1 rfl) ?_
  obtain ⟨M3, r2, q1, hf⟩ := cal_s hf
  refine l_calli (g_runV hx hb hml hown hts hK hap hsx hI (tX6_finishedHeight l hk0 q1 H.size) cv_X6_finishedHeight q_t2_208 rfl rfl ⟨Nat.le_of_ble_eq_true rfl, Nat.le_of_ble_eq_true rfl⟩ hk0.1 (by simp) rfl rfl rfl hl.1 rfl (Nat.le_of_ble_eq_true rfl) (dc tbL_law_11_k 20 rfl) ⟨by have := hc.1; show _ ≤ 600002; omega, by have := hc.2; show _ ≤ 7302232; omega⟩) hI hJ hA hd1 (fun H locs hI hJ => ?_)
  refine lv_aload_n hx hb (dc tbL_law_11_k 21 rfl) rfl (lv_at hl 2 rfl) ?_
  obtain ⟨N6, r5, q4, hf⟩ := cal_s hf
  refine l_calli (g_runV hx hb hml hown hts hK hap2 hsx2 hJ (tX7_finishedHeight l hk2 q4 H.size) cv_X7_finishedHeight q_t8_167 rfl rfl ⟨Nat.le_of_ble_eq_true rfl, Nat.le_of_ble_eq_true rfl⟩ hk2.1 (by simp) rfl rfl rfl hl.1 rfl (Nat.le_of_ble_eq_true rfl) (dc tbL_law_11_k 22 rfl) ⟨by have := hc.1; show _ ≤ 600002; omega, by have := hc.2; show _ ≤ 7302232; omega⟩) hJ hI hA.symm hd2 (fun H locs hJ hI => ?_)
  refine lv_icmp_eq (tgt := 2624) hx hb (dc tbL_law_11_k 23 rfl) rfl (fun c7 => ?_) (fun c7 => ?_)
  · have hf := ite_t c7 hf
    cases hf
    refine W.widen (k := cells + 64) (n := slots + 512) (by omega) (by omega) ?_
    exact hk _ _ _ hI hJ (lv_sub hl [0, 1, 2, 3, 4, 5] rfl)
  · have hf := ite_f c7 hf
    refine lv_iconst (v := 0) hx hb (dc tbL_law_11_k 24 rfl) ic_0 ?_
    cases hf
def mlc_18 (a1 a2 a3 a4 a5 : Int32) (M N : Mem) : Option (Mem × Mem) := cal (mX6_isFinishedCrossed 0 M) (fun M3 r2 => cal (mX7_isFinishedCrossed 135 N) (fun N6 r5 => ite2 (r2 = r5) (some (M3, N6)) (none)))
set_option maxHeartbeats 4000000 in
set_option maxRecDepth 100000 in
theorem lc_18 (C : Lx p l s m args meth c b L xs G kd kd' ad) (hc : cells + 64 ≤ 600002 ∧ slots + 512 ≤ 7302232) {x5 a0 a1 a2 a3 a4 a5 : Int32} (hs : Sc xs L x5 a0 a1 a2 a3 a4 a5) {M N M' N' : Mem} (hf : mlc_18 a1 a2 a3 a4 a5 M N = some (M', N')) (hk : AtW p l e s m args below meth c G kd kd' ad b x5 M' N' Q (cells + 64) (slots + 512) 2624) : AtW p l e s m args below meth c G kd kd' ad b x5 M N Q cells slots 1019 := by
  intro H locs ls hI hJ hl
  obtain ⟨hx, hb, hml, hown, hts, hK, hap, hap2, hsx, hsx2, hnc, hst, hA, hd1, hd2, hX, hbl, hbA, hk0, hS, hk1, hk3, hk2⟩ := id C
  unfold mlc_18 at hf
  refine lv_aload_n hx hb (dc tbL_law_11_k 26 rfl) rfl (lv_at hl 1 rfl) ?_
  obtain ⟨M3, r2, q1, hf⟩ := cal_s hf
  refine l_calli (g_runV hx hb hml hown hts hK hap hsx hI (tX6_isFinishedCrossed l hk0 q1 H.size) cv_X6_isFinishedCrossed q_t2_212 rfl rfl ⟨Nat.le_of_ble_eq_true rfl, Nat.le_of_ble_eq_true rfl⟩ hk0.1 (by simp) rfl rfl rfl hl.1 rfl (Nat.le_of_ble_eq_true rfl) (dc tbL_law_11_k 27 rfl) ⟨by have := hc.1; show _ ≤ 600002; omega, by have := hc.2; show _ ≤ 7302232; omega⟩) hI hJ hA hd1 (fun H locs hI hJ => ?_)
  refine lv_aload_n hx hb (dc tbL_law_11_k 28 rfl) rfl (lv_at hl 2 rfl) ?_
  obtain ⟨N6, r5, q4, hf⟩ := cal_s hf
  refine l_calli (g_runV hx hb hml hown hts hK hap2 hsx2 hJ (tX7_isFinishedCrossed l hk2 q4 H.size) cv_X7_isFinishedCrossed q_t8_171 rfl rfl ⟨Nat.le_of_ble_eq_true rfl, Nat.le_of_ble_eq_true rfl⟩ hk2.1 (by simp) rfl rfl rfl hl.1 rfl (Nat.le_of_ble_eq_true rfl) (dc tbL_law_11_k 29 rfl) ⟨by have := hc.1; show _ ≤ 600002; omega, by have := hc.2; show _ ≤ 7302232; omega⟩) hJ hI hA.symm hd2 (fun H locs hJ hI => ?_)
  refine lv_icmp_eq (tgt := 2624) hx hb (dc tbL_law_11_k 30 rfl) rfl (fun c7 => ?_) (fun c7 => ?_)
  · have hf := ite_t c7 hf
    cases hf
    refine W.widen (k := cells + 64) (n := slots + 512) (by omega) (by omega) ?_
    exact hk _ _ _ hI hJ (lv_sub hl [0, 1, 2, 3, 4, 5] rfl)
  · have hf := ite_f c7 hf
    refine lv_iconst (v := 0) hx hb (dc tbL_law_11_k 31 rfl) ic_0 ?_
    cases hf
def mlc_19 (a1 a2 a3 a4 a5 : Int32) (M N : Mem) : Option (Mem × Mem) := calh (mL_finishedCorner 0 152 a1 a2 M) (fun M3 r2 => cal (mX7_finishedCorner 135 a1 a2 N) (fun N6 r5 => cap (mX7_thrown 135 N6) (fun r8 => ite2 (r8 = r2) (ite2 (r2 = 0) (chk (okb (0 : Int32) 1) (ite2 ((lg_cmp (rl M3 152 ((0 : Int32)).toNatClampNeg) (r5).toInt64) = 0) (some (M3, N6)) (none))) (some (M3, N6))) (none))))
set_option maxHeartbeats 4000000 in
set_option maxRecDepth 100000 in
theorem lc_19 (C : Lx p l s m args meth c b L xs G kd kd' ad) (hc : cells + 64 ≤ 600002 ∧ slots + 512 ≤ 7302232) {x5 a0 a1 a2 a3 a4 a5 : Int32} (hs : Sc xs L x5 a0 a1 a2 a3 a4 a5) {M N M' N' : Mem} (hf : mlc_19 a1 a2 a3 a4 a5 M N = some (M', N')) (hk : AtW p l e s m args below meth c G kd kd' ad b x5 M' N' Q (cells + 64) (slots + 512) 2624) : AtW p l e s m args below meth c G kd kd' ad b x5 M N Q cells slots 1032 := by
  intro H locs ls hI hJ hl
  obtain ⟨hx, hb, hml, hown, hts, hK, hap, hap2, hsx, hsx2, hnc, hst, hA, hd1, hd2, hX, hbl, hbA, hk0, hS, hk1, hk3, hk2⟩ := id C
  unfold mlc_19 at hf
  refine lv_aload_n hx hb (dc tbL_law_11_k 33 rfl) rfl (lv_at hl 1 rfl) ?_
  refine lv_aload_n hx hb (dc tbL_law_11_k 34 rfl) rfl (lv_at hl 0 rfl) ?_
  refine lv_iload hx hb (dc tbL_law_11_k 35 rfl) (lv_at hl 5 rfl) ?_
  refine lv_iconst (v := 1) hx hb (dc tbL_law_11_k 36 rfl) ic_1 ?_
  refine lv_iadd hx hb (dc tbL_law_11_k 37 rfl) ?_
  refine l_sld hx hb hX hbl hbA hI hs.2.1.1 hs.2.1.2 (dc tbL_law_11_k 38 rfl) ?_
  refine lv_aload_n hx hb (dc tbL_law_11_k 39 rfl) rfl (lv_at hl 0 rfl) ?_
  refine lv_iload hx hb (dc tbL_law_12_k 0 rfl) (lv_at hl 5 rfl) ?_
  refine lv_iconst (v := 2) hx hb (dc tbL_law_12_k 1 rfl) ic_2 ?_
  refine lv_iadd hx hb (dc tbL_law_12_k 2 rfl) ?_
  refine l_sld hx hb hX hbl hbA hI hs.2.2.1.1 hs.2.2.1.2 (dc tbL_law_12_k 3 rfl) ?_
  refine lv_aload_n hx hb (dc tbL_law_12_k 4 rfl) rfl (lv_at hl 3 rfl) ?_
  obtain ⟨M3, r2, q1, hf⟩ := calh_s hf
  refine l_callH (g_runH hx hb hml hown hts hK hap hsx hnc hI (tL_finishedCorner l hst hk0 hk1 q1 H.size) ch_L_finishedCorner q_t6_71 rfl rfl ⟨Nat.le_of_ble_eq_true rfl, Nat.le_of_ble_eq_true rfl⟩ rfl hl.1 rfl (Nat.le_of_ble_eq_true rfl) (dc tbL_law_12_k 5 rfl) ⟨by have := hc.1; show _ ≤ 600002; omega, by have := hc.2; show _ ≤ 7302232; omega⟩) hI hJ hA hd1 (fun H locs hI hJ => ?_)
  refine lv_istore (lv' := [(6, .int r2), (0, .ref b), (1, .ref (ad 0)), (2, .ref (ad 135)), (3, .ref (ad 152)), (4, .ref (ad 153)), (5, .int x5)]) hx hb (dc tbL_law_12_k 6 rfl) hl (by decide) rfl (fun ls hl => ?_)
  refine lv_aload_n hx hb (dc tbL_law_12_k 7 rfl) rfl (lv_at hl 3 rfl) ?_
  refine lv_aload_n hx hb (dc tbL_law_12_k 8 rfl) rfl (lv_at hl 1 rfl) ?_
  refine lv_iload hx hb (dc tbL_law_12_k 9 rfl) (lv_at hl 6 rfl) ?_
  refine lv_iconst (v := 1) hx hb (dc tbL_law_12_k 10 rfl) ic_1 ?_
  refine lv_iadd hx hb (dc tbL_law_12_k 11 rfl) ?_
  refine l_sld hx hb hX hbl hbA hI hs.2.1.1 hs.2.1.2 (dc tbL_law_12_k 12 rfl) ?_
  refine lv_aload_n hx hb (dc tbL_law_12_k 13 rfl) rfl (lv_at hl 1 rfl) ?_
  refine lv_iload hx hb (dc tbL_law_12_k 14 rfl) (lv_at hl 6 rfl) ?_
  refine lv_iconst (v := 2) hx hb (dc tbL_law_12_k 15 rfl) ic_2 ?_
  refine lv_iadd hx hb (dc tbL_law_12_k 16 rfl) ?_
  refine l_sld hx hb hX hbl hbA hI hs.2.2.1.1 hs.2.2.1.2 (dc tbL_law_12_k 17 rfl) ?_
  obtain ⟨N6, r5, q4, hf⟩ := cal_s hf
  refine l_calli (g_runV hx hb hml hown hts hK hap2 hsx2 hJ (tX7_finishedCorner l hk2 q4 H.size) cv_X7_finishedCorner q_t8_182 rfl rfl ⟨Nat.le_of_ble_eq_true rfl, Nat.le_of_ble_eq_true rfl⟩ hk2.1 (by simp) rfl rfl rfl hl.1 rfl (Nat.le_of_ble_eq_true rfl) (dc tbL_law_12_k 18 rfl) ⟨by have := hc.1; show _ ≤ 600002; omega, by have := hc.2; show _ ≤ 7302232; omega⟩) hJ hI hA.symm hd2 (fun H locs hJ hI => ?_)
  refine lv_istore (lv' := [(7, .int r5), (6, .int r2), (0, .ref b), (1, .ref (ad 0)), (2, .ref (ad 135)), (3, .ref (ad 152)), (4, .ref (ad 153)), (5, .int x5)]) hx hb (dc tbL_law_12_k 19 rfl) hl (by decide) rfl (fun ls hl => ?_)
  refine lv_aload_n hx hb (dc tbL_law_12_k 20 rfl) rfl (lv_at hl 4 rfl) ?_
  obtain ⟨r8, q7, hf⟩ := cap_s hf
  refine l_calli (g_runV hx hb hml hown hts hK hap2 hsx2 hJ (tX7_thrown l hk2 q7 H.size) cv_X7_thrown q_t7_170 rfl rfl ⟨Nat.le_of_ble_eq_true rfl, Nat.le_of_ble_eq_true rfl⟩ hk2.1 (by simp) rfl rfl rfl hl.1 rfl (Nat.le_of_ble_eq_true rfl) (dc tbL_law_12_k 21 rfl) ⟨by have := hc.1; show _ ≤ 600002; omega, by have := hc.2; show _ ≤ 7302232; omega⟩) hJ hI hA.symm hd2 (fun H locs hJ hI => ?_)
  refine lv_iload hx hb (dc tbL_law_12_k 22 rfl) (lv_at hl 1 rfl) ?_
  refine lv_icmp_eq (tgt := 1080) hx hb (dc tbL_law_12_k 23 rfl) rfl (fun c10 => ?_) (fun c10 => ?_)
  · have hf := ite_t c10 hf
    refine lv_iload hx hb (dc tbL_law_12_k 26 rfl) (lv_at hl 1 rfl) ?_
    refine lv_if_ne (tgt := 1097) hx hb (dc tbL_law_12_k 27 rfl) rfl (fun c11 => ?_) (fun c11 => ?_)
    · have hf := ite_f c11 hf
      refine lv_goto (tgt := 2624) hx hb (dc tbL_law_12_k 37 rfl) rfl ?_
      cases hf
      refine W.widen (k := cells + 64) (n := slots + 512) (by omega) (by omega) ?_
      exact hk _ _ _ hI hJ (lv_sub hl [2, 3, 4, 5, 6, 7] rfl)
    · have hf := ite_t c11 hf
      refine lv_aload_n hx hb (dc tbL_law_12_k 28 rfl) rfl (lv_at hl 5 rfl) ?_
      refine lv_iconst (v := 0) hx hb (dc tbL_law_12_k 29 rfl) ic_0 ?_
      obtain ⟨h12, hf⟩ := chk_s hf
      refine g_lald hx hb hK hI hk1 (okb_in h12) (dc tbL_law_12_k 30 rfl) ?_
      refine lv_iload hx hb (dc tbL_law_12_k 31 rfl) (lv_at hl 0 rfl) ?_
      refine lv_i2l hx hb (dc tbL_law_12_k 32 rfl) rfl ?_
      refine W.lcmp hx hb (dc tbL_law_12_k 33 rfl) ?_
      refine lv_if_eq (tgt := 1097) hx hb (dc tbL_law_12_k 34 rfl) rfl (fun c13 => ?_) (fun c13 => ?_)
      · have hf := ite_t c13 hf
        refine lv_goto (tgt := 2624) hx hb (dc tbL_law_12_k 37 rfl) rfl ?_
        cases hf
        refine W.widen (k := cells + 64) (n := slots + 512) (by omega) (by omega) ?_
        exact hk _ _ _ hI hJ (lv_sub hl [2, 3, 4, 5, 6, 7] rfl)
      · have hf := ite_f c13 hf
        refine lv_iconst (v := 0) hx hb (dc tbL_law_12_k 35 rfl) ic_0 ?_
        cases hf
  · have hf := ite_f c10 hf
    refine lv_iconst (v := 0) hx hb (dc tbL_law_12_k 24 rfl) ic_0 ?_
    cases hf
def mlc_20 (a1 a2 a3 a4 a5 : Int32) (M N : Mem) : Option (Mem × Mem) := cap (mX6_isSymmetric 0 M) (fun r2 => cal (mX7_isSymmetric 135 N) (fun N6 r5 => ite2 (r2 = r5) (some (M, N6)) (none)))
set_option maxHeartbeats 4000000 in
set_option maxRecDepth 100000 in
theorem lc_20 (C : Lx p l s m args meth c b L xs G kd kd' ad) (hc : cells + 64 ≤ 600002 ∧ slots + 512 ≤ 7302232) {x5 a0 a1 a2 a3 a4 a5 : Int32} (hs : Sc xs L x5 a0 a1 a2 a3 a4 a5) {M N M' N' : Mem} (hf : mlc_20 a1 a2 a3 a4 a5 M N = some (M', N')) (hk : AtW p l e s m args below meth c G kd kd' ad b x5 M' N' Q (cells + 64) (slots + 512) 2624) : AtW p l e s m args below meth c G kd kd' ad b x5 M N Q cells slots 1100 := by
  intro H locs ls hI hJ hl
  obtain ⟨hx, hb, hml, hown, hts, hK, hap, hap2, hsx, hsx2, hnc, hst, hA, hd1, hd2, hX, hbl, hbA, hk0, hS, hk1, hk3, hk2⟩ := id C
  unfold mlc_20 at hf
  refine lv_aload_n hx hb (dc tbL_law_12_k 38 rfl) rfl (lv_at hl 1 rfl) ?_
  obtain ⟨r2, q1, hf⟩ := cap_s hf
  refine l_calli (g_runV hx hb hml hown hts hK hap hsx hI (tX6_isSymmetric l hk0 q1 H.size) cv_X6_isSymmetric q_t2_224 rfl rfl ⟨Nat.le_of_ble_eq_true rfl, Nat.le_of_ble_eq_true rfl⟩ hk0.1 (by simp) rfl rfl rfl hl.1 rfl (Nat.le_of_ble_eq_true rfl) (dc tbL_law_12_k 39 rfl) ⟨by have := hc.1; show _ ≤ 600002; omega, by have := hc.2; show _ ≤ 7302232; omega⟩) hI hJ hA hd1 (fun H locs hI hJ => ?_)
  refine lv_aload_n hx hb (dc tbL_law_13_k 0 rfl) rfl (lv_at hl 2 rfl) ?_
  obtain ⟨N6, r5, q4, hf⟩ := cal_s hf
  refine l_calli (g_runV hx hb hml hown hts hK hap2 hsx2 hJ (tX7_isSymmetric l hk2 q4 H.size) cv_X7_isSymmetric q_t8_135 rfl rfl ⟨Nat.le_of_ble_eq_true rfl, Nat.le_of_ble_eq_true rfl⟩ hk2.1 (by simp) rfl rfl rfl hl.1 rfl (Nat.le_of_ble_eq_true rfl) (dc tbL_law_13_k 1 rfl) ⟨by have := hc.1; show _ ≤ 600002; omega, by have := hc.2; show _ ≤ 7302232; omega⟩) hJ hI hA.symm hd2 (fun H locs hJ hI => ?_)
  refine lv_icmp_eq (tgt := 2624) hx hb (dc tbL_law_13_k 2 rfl) rfl (fun c7 => ?_) (fun c7 => ?_)
  · have hf := ite_t c7 hf
    cases hf
    refine W.widen (k := cells + 64) (n := slots + 512) (by omega) (by omega) ?_
    exact hk _ _ _ hI hJ (lv_sub hl [0, 1, 2, 3, 4, 5] rfl)
  · have hf := ite_f c7 hf
    refine lv_iconst (v := 0) hx hb (dc tbL_law_13_k 3 rfl) ic_0 ?_
    cases hf
def mlc_21 (a1 a2 a3 a4 a5 : Int32) (M N : Mem) : Option (Mem × Mem) := cap (mX6_longestLeg 0 M) (fun r2 => cal (mX7_longestLeg 135 N) (fun N6 r5 => ite2 (r2 = r5) (some (M, N6)) (none)))
set_option maxHeartbeats 4000000 in
set_option maxRecDepth 100000 in
theorem lc_21 (C : Lx p l s m args meth c b L xs G kd kd' ad) (hc : cells + 64 ≤ 600002 ∧ slots + 512 ≤ 7302232) {x5 a0 a1 a2 a3 a4 a5 : Int32} (hs : Sc xs L x5 a0 a1 a2 a3 a4 a5) {M N M' N' : Mem} (hf : mlc_21 a1 a2 a3 a4 a5 M N = some (M', N')) (hk : AtW p l e s m args below meth c G kd kd' ad b x5 M' N' Q (cells + 64) (slots + 512) 2624) : AtW p l e s m args below meth c G kd kd' ad b x5 M N Q cells slots 1113 := by
  intro H locs ls hI hJ hl
  obtain ⟨hx, hb, hml, hown, hts, hK, hap, hap2, hsx, hsx2, hnc, hst, hA, hd1, hd2, hX, hbl, hbA, hk0, hS, hk1, hk3, hk2⟩ := id C
  unfold mlc_21 at hf
  refine lv_aload_n hx hb (dc tbL_law_13_k 5 rfl) rfl (lv_at hl 1 rfl) ?_
  obtain ⟨r2, q1, hf⟩ := cap_s hf
  refine l_calli (g_runV hx hb hml hown hts hK hap hsx hI (tX6_longestLeg l hk0 q1 H.size) cv_X6_longestLeg q_t2_236 rfl rfl ⟨Nat.le_of_ble_eq_true rfl, Nat.le_of_ble_eq_true rfl⟩ hk0.1 (by simp) rfl rfl rfl hl.1 rfl (Nat.le_of_ble_eq_true rfl) (dc tbL_law_13_k 6 rfl) ⟨by have := hc.1; show _ ≤ 600002; omega, by have := hc.2; show _ ≤ 7302232; omega⟩) hI hJ hA hd1 (fun H locs hI hJ => ?_)
  refine lv_aload_n hx hb (dc tbL_law_13_k 7 rfl) rfl (lv_at hl 2 rfl) ?_
  obtain ⟨N6, r5, q4, hf⟩ := cal_s hf
  refine l_calli (g_runV hx hb hml hown hts hK hap2 hsx2 hJ (tX7_longestLeg l hk2 q4 H.size) cv_X7_longestLeg q_t8_143 rfl rfl ⟨Nat.le_of_ble_eq_true rfl, Nat.le_of_ble_eq_true rfl⟩ hk2.1 (by simp) rfl rfl rfl hl.1 rfl (Nat.le_of_ble_eq_true rfl) (dc tbL_law_13_k 8 rfl) ⟨by have := hc.1; show _ ≤ 600002; omega, by have := hc.2; show _ ≤ 7302232; omega⟩) hJ hI hA.symm hd2 (fun H locs hJ hI => ?_)
  refine lv_icmp_eq (tgt := 2624) hx hb (dc tbL_law_13_k 9 rfl) rfl (fun c7 => ?_) (fun c7 => ?_)
  · have hf := ite_t c7 hf
    cases hf
    refine W.widen (k := cells + 64) (n := slots + 512) (by omega) (by omega) ?_
    exact hk _ _ _ hI hJ (lv_sub hl [0, 1, 2, 3, 4, 5] rfl)
  · have hf := ite_f c7 hf
    refine lv_iconst (v := 0) hx hb (dc tbL_law_13_k 10 rfl) ic_0 ?_
    cases hf
def mlc_22 (a1 a2 a3 a4 a5 : Int32) (M N : Mem) : Option (Mem × Mem) := cap (mX6_made 0 M) (fun r2 => cal (mX7_made 135 N) (fun N6 r5 => ite2 (r2 = r5) (some (M, N6)) (none)))
set_option maxHeartbeats 4000000 in
set_option maxRecDepth 100000 in
theorem lc_22 (C : Lx p l s m args meth c b L xs G kd kd' ad) (hc : cells + 64 ≤ 600002 ∧ slots + 512 ≤ 7302232) {x5 a0 a1 a2 a3 a4 a5 : Int32} (hs : Sc xs L x5 a0 a1 a2 a3 a4 a5) {M N M' N' : Mem} (hf : mlc_22 a1 a2 a3 a4 a5 M N = some (M', N')) (hk : AtW p l e s m args below meth c G kd kd' ad b x5 M' N' Q (cells + 64) (slots + 512) 2624) : AtW p l e s m args below meth c G kd kd' ad b x5 M N Q cells slots 1126 := by
  intro H locs ls hI hJ hl
  obtain ⟨hx, hb, hml, hown, hts, hK, hap, hap2, hsx, hsx2, hnc, hst, hA, hd1, hd2, hX, hbl, hbA, hk0, hS, hk1, hk3, hk2⟩ := id C
  unfold mlc_22 at hf
  refine lv_aload_n hx hb (dc tbL_law_13_k 12 rfl) rfl (lv_at hl 1 rfl) ?_
  obtain ⟨r2, q1, hf⟩ := cap_s hf
  refine l_calli (g_runV hx hb hml hown hts hK hap hsx hI (tX6_made l hk0 q1 H.size) cv_X6_made q_t3_0 rfl rfl ⟨Nat.le_of_ble_eq_true rfl, Nat.le_of_ble_eq_true rfl⟩ hk0.1 (by simp) rfl rfl rfl hl.1 rfl (Nat.le_of_ble_eq_true rfl) (dc tbL_law_13_k 13 rfl) ⟨by have := hc.1; show _ ≤ 600002; omega, by have := hc.2; show _ ≤ 7302232; omega⟩) hI hJ hA hd1 (fun H locs hI hJ => ?_)
  refine lv_aload_n hx hb (dc tbL_law_13_k 14 rfl) rfl (lv_at hl 2 rfl) ?_
  obtain ⟨N6, r5, q4, hf⟩ := cal_s hf
  refine l_calli (g_runV hx hb hml hown hts hK hap2 hsx2 hJ (tX7_made l hk2 q4 H.size) cv_X7_made q_t8_190 rfl rfl ⟨Nat.le_of_ble_eq_true rfl, Nat.le_of_ble_eq_true rfl⟩ hk2.1 (by simp) rfl rfl rfl hl.1 rfl (Nat.le_of_ble_eq_true rfl) (dc tbL_law_13_k 15 rfl) ⟨by have := hc.1; show _ ≤ 600002; omega, by have := hc.2; show _ ≤ 7302232; omega⟩) hJ hI hA.symm hd2 (fun H locs hJ hI => ?_)
  refine lv_icmp_eq (tgt := 2624) hx hb (dc tbL_law_13_k 16 rfl) rfl (fun c7 => ?_) (fun c7 => ?_)
  · have hf := ite_t c7 hf
    cases hf
    refine W.widen (k := cells + 64) (n := slots + 512) (by omega) (by omega) ?_
    exact hk _ _ _ hI hJ (lv_sub hl [0, 1, 2, 3, 4, 5] rfl)
  · have hf := ite_f c7 hf
    refine lv_iconst (v := 0) hx hb (dc tbL_law_13_k 17 rfl) ic_0 ?_
    cases hf
def mlc_23 (a1 a2 a3 a4 a5 : Int32) (M N : Mem) : Option (Mem × Mem) := cap (mX6_steps 0 M) (fun r2 => cal (mX7_steps 135 N) (fun N6 r5 => ite2 (r2 = r5) (some (M, N6)) (none)))
set_option maxHeartbeats 4000000 in
set_option maxRecDepth 100000 in
theorem lc_23 (C : Lx p l s m args meth c b L xs G kd kd' ad) (hc : cells + 64 ≤ 600002 ∧ slots + 512 ≤ 7302232) {x5 a0 a1 a2 a3 a4 a5 : Int32} (hs : Sc xs L x5 a0 a1 a2 a3 a4 a5) {M N M' N' : Mem} (hf : mlc_23 a1 a2 a3 a4 a5 M N = some (M', N')) (hk : AtW p l e s m args below meth c G kd kd' ad b x5 M' N' Q (cells + 64) (slots + 512) 2624) : AtW p l e s m args below meth c G kd kd' ad b x5 M N Q cells slots 1139 := by
  intro H locs ls hI hJ hl
  obtain ⟨hx, hb, hml, hown, hts, hK, hap, hap2, hsx, hsx2, hnc, hst, hA, hd1, hd2, hX, hbl, hbA, hk0, hS, hk1, hk3, hk2⟩ := id C
  unfold mlc_23 at hf
  refine lv_aload_n hx hb (dc tbL_law_13_k 19 rfl) rfl (lv_at hl 1 rfl) ?_
  obtain ⟨r2, q1, hf⟩ := cap_s hf
  refine l_calli (g_runV hx hb hml hown hts hK hap hsx hI (tX6_steps l hk0 q1 H.size) cv_X6_steps q_t3_4 rfl rfl ⟨Nat.le_of_ble_eq_true rfl, Nat.le_of_ble_eq_true rfl⟩ hk0.1 (by simp) rfl rfl rfl hl.1 rfl (Nat.le_of_ble_eq_true rfl) (dc tbL_law_13_k 20 rfl) ⟨by have := hc.1; show _ ≤ 600002; omega, by have := hc.2; show _ ≤ 7302232; omega⟩) hI hJ hA hd1 (fun H locs hI hJ => ?_)
  refine lv_aload_n hx hb (dc tbL_law_13_k 21 rfl) rfl (lv_at hl 2 rfl) ?_
  obtain ⟨N6, r5, q4, hf⟩ := cal_s hf
  refine l_calli (g_runV hx hb hml hown hts hK hap2 hsx2 hJ (tX7_steps l hk2 q4 H.size) cv_X7_steps q_t8_194 rfl rfl ⟨Nat.le_of_ble_eq_true rfl, Nat.le_of_ble_eq_true rfl⟩ hk2.1 (by simp) rfl rfl rfl hl.1 rfl (Nat.le_of_ble_eq_true rfl) (dc tbL_law_13_k 22 rfl) ⟨by have := hc.1; show _ ≤ 600002; omega, by have := hc.2; show _ ≤ 7302232; omega⟩) hJ hI hA.symm hd2 (fun H locs hJ hI => ?_)
  refine lv_icmp_eq (tgt := 2624) hx hb (dc tbL_law_13_k 23 rfl) rfl (fun c7 => ?_) (fun c7 => ?_)
  · have hf := ite_t c7 hf
    cases hf
    refine W.widen (k := cells + 64) (n := slots + 512) (by omega) (by omega) ?_
    exact hk _ _ _ hI hJ (lv_sub hl [0, 1, 2, 3, 4, 5] rfl)
  · have hf := ite_f c7 hf
    refine lv_iconst (v := 0) hx hb (dc tbL_law_13_k 24 rfl) ic_0 ?_
    cases hf
def mlc_24 (a1 a2 a3 a4 a5 : Int32) (M N : Mem) : Option (Mem × Mem) := calh (mL_step 0 152 a1 a2 M) (fun M3 r2 => cal (mX7_step 135 a1 a2 N) (fun N6 r5 => cap (mX7_thrown 135 N6) (fun r8 => ite2 (r8 = r2) (ite2 (r2 = 0) (chk (okb (0 : Int32) 1) (ite2 ((lg_cmp (rl M3 152 ((0 : Int32)).toNatClampNeg) (r5).toInt64) = 0) (some (M3, N6)) (none))) (some (M3, N6))) (none))))
set_option maxHeartbeats 4000000 in
set_option maxRecDepth 100000 in
theorem lc_24 (C : Lx p l s m args meth c b L xs G kd kd' ad) (hc : cells + 64 ≤ 600002 ∧ slots + 512 ≤ 7302232) {x5 a0 a1 a2 a3 a4 a5 : Int32} (hs : Sc xs L x5 a0 a1 a2 a3 a4 a5) {M N M' N' : Mem} (hf : mlc_24 a1 a2 a3 a4 a5 M N = some (M', N')) (hk : AtW p l e s m args below meth c G kd kd' ad b x5 M' N' Q (cells + 64) (slots + 512) 2624) : AtW p l e s m args below meth c G kd kd' ad b x5 M N Q cells slots 1152 := by
  intro H locs ls hI hJ hl
  obtain ⟨hx, hb, hml, hown, hts, hK, hap, hap2, hsx, hsx2, hnc, hst, hA, hd1, hd2, hX, hbl, hbA, hk0, hS, hk1, hk3, hk2⟩ := id C
  unfold mlc_24 at hf
  refine lv_aload_n hx hb (dc tbL_law_13_k 26 rfl) rfl (lv_at hl 1 rfl) ?_
  refine lv_aload_n hx hb (dc tbL_law_13_k 27 rfl) rfl (lv_at hl 0 rfl) ?_
  refine lv_iload hx hb (dc tbL_law_13_k 28 rfl) (lv_at hl 5 rfl) ?_
  refine lv_iconst (v := 1) hx hb (dc tbL_law_13_k 29 rfl) ic_1 ?_
  refine lv_iadd hx hb (dc tbL_law_13_k 30 rfl) ?_
  refine l_sld hx hb hX hbl hbA hI hs.2.1.1 hs.2.1.2 (dc tbL_law_13_k 31 rfl) ?_
  refine lv_aload_n hx hb (dc tbL_law_13_k 32 rfl) rfl (lv_at hl 0 rfl) ?_
  refine lv_iload hx hb (dc tbL_law_13_k 33 rfl) (lv_at hl 5 rfl) ?_
  refine lv_iconst (v := 2) hx hb (dc tbL_law_13_k 34 rfl) ic_2 ?_
  refine lv_iadd hx hb (dc tbL_law_13_k 35 rfl) ?_
  refine l_sld hx hb hX hbl hbA hI hs.2.2.1.1 hs.2.2.1.2 (dc tbL_law_13_k 36 rfl) ?_
  refine lv_aload_n hx hb (dc tbL_law_13_k 37 rfl) rfl (lv_at hl 3 rfl) ?_
  obtain ⟨M3, r2, q1, hf⟩ := calh_s hf
  refine l_callH (g_runH hx hb hml hown hts hK hap hsx hnc hI (tL_step l hst hk0 hk1 q1 H.size) ch_L_step q_t6_82 rfl rfl ⟨Nat.le_of_ble_eq_true rfl, Nat.le_of_ble_eq_true rfl⟩ rfl hl.1 rfl (Nat.le_of_ble_eq_true rfl) (dc tbL_law_13_k 38 rfl) ⟨by have := hc.1; show _ ≤ 600002; omega, by have := hc.2; show _ ≤ 7302232; omega⟩) hI hJ hA hd1 (fun H locs hI hJ => ?_)
  refine lv_istore (lv' := [(6, .int r2), (0, .ref b), (1, .ref (ad 0)), (2, .ref (ad 135)), (3, .ref (ad 152)), (4, .ref (ad 153)), (5, .int x5)]) hx hb (dc tbL_law_13_k 39 rfl) hl (by decide) rfl (fun ls hl => ?_)
  refine lv_aload_n hx hb (dc tbL_law_14_k 0 rfl) rfl (lv_at hl 3 rfl) ?_
  refine lv_aload_n hx hb (dc tbL_law_14_k 1 rfl) rfl (lv_at hl 1 rfl) ?_
  refine lv_iload hx hb (dc tbL_law_14_k 2 rfl) (lv_at hl 6 rfl) ?_
  refine lv_iconst (v := 1) hx hb (dc tbL_law_14_k 3 rfl) ic_1 ?_
  refine lv_iadd hx hb (dc tbL_law_14_k 4 rfl) ?_
  refine l_sld hx hb hX hbl hbA hI hs.2.1.1 hs.2.1.2 (dc tbL_law_14_k 5 rfl) ?_
  refine lv_aload_n hx hb (dc tbL_law_14_k 6 rfl) rfl (lv_at hl 1 rfl) ?_
  refine lv_iload hx hb (dc tbL_law_14_k 7 rfl) (lv_at hl 6 rfl) ?_
  refine lv_iconst (v := 2) hx hb (dc tbL_law_14_k 8 rfl) ic_2 ?_
  refine lv_iadd hx hb (dc tbL_law_14_k 9 rfl) ?_
  refine l_sld hx hb hX hbl hbA hI hs.2.2.1.1 hs.2.2.1.2 (dc tbL_law_14_k 10 rfl) ?_
  obtain ⟨N6, r5, q4, hf⟩ := cal_s hf
  refine l_calli (g_runV hx hb hml hown hts hK hap2 hsx2 hJ (tX7_step l hk2 q4 H.size) cv_X7_step q_t8_198 rfl rfl ⟨Nat.le_of_ble_eq_true rfl, Nat.le_of_ble_eq_true rfl⟩ hk2.1 (by simp) rfl rfl rfl hl.1 rfl (Nat.le_of_ble_eq_true rfl) (dc tbL_law_14_k 11 rfl) ⟨by have := hc.1; show _ ≤ 600002; omega, by have := hc.2; show _ ≤ 7302232; omega⟩) hJ hI hA.symm hd2 (fun H locs hJ hI => ?_)
  refine lv_istore (lv' := [(7, .int r5), (6, .int r2), (0, .ref b), (1, .ref (ad 0)), (2, .ref (ad 135)), (3, .ref (ad 152)), (4, .ref (ad 153)), (5, .int x5)]) hx hb (dc tbL_law_14_k 12 rfl) hl (by decide) rfl (fun ls hl => ?_)
  refine lv_aload_n hx hb (dc tbL_law_14_k 13 rfl) rfl (lv_at hl 4 rfl) ?_
  obtain ⟨r8, q7, hf⟩ := cap_s hf
  refine l_calli (g_runV hx hb hml hown hts hK hap2 hsx2 hJ (tX7_thrown l hk2 q7 H.size) cv_X7_thrown q_t7_170 rfl rfl ⟨Nat.le_of_ble_eq_true rfl, Nat.le_of_ble_eq_true rfl⟩ hk2.1 (by simp) rfl rfl rfl hl.1 rfl (Nat.le_of_ble_eq_true rfl) (dc tbL_law_14_k 14 rfl) ⟨by have := hc.1; show _ ≤ 600002; omega, by have := hc.2; show _ ≤ 7302232; omega⟩) hJ hI hA.symm hd2 (fun H locs hJ hI => ?_)
  refine lv_iload hx hb (dc tbL_law_14_k 15 rfl) (lv_at hl 1 rfl) ?_
  refine lv_icmp_eq (tgt := 1200) hx hb (dc tbL_law_14_k 16 rfl) rfl (fun c10 => ?_) (fun c10 => ?_)
  · have hf := ite_t c10 hf
    refine lv_iload hx hb (dc tbL_law_14_k 19 rfl) (lv_at hl 1 rfl) ?_
    refine lv_if_ne (tgt := 1217) hx hb (dc tbL_law_14_k 20 rfl) rfl (fun c11 => ?_) (fun c11 => ?_)
    · have hf := ite_f c11 hf
      refine lv_goto (tgt := 2624) hx hb (dc tbL_law_14_k 30 rfl) rfl ?_
      cases hf
      refine W.widen (k := cells + 64) (n := slots + 512) (by omega) (by omega) ?_
      exact hk _ _ _ hI hJ (lv_sub hl [2, 3, 4, 5, 6, 7] rfl)
    · have hf := ite_t c11 hf
      refine lv_aload_n hx hb (dc tbL_law_14_k 21 rfl) rfl (lv_at hl 5 rfl) ?_
      refine lv_iconst (v := 0) hx hb (dc tbL_law_14_k 22 rfl) ic_0 ?_
      obtain ⟨h12, hf⟩ := chk_s hf
      refine g_lald hx hb hK hI hk1 (okb_in h12) (dc tbL_law_14_k 23 rfl) ?_
      refine lv_iload hx hb (dc tbL_law_14_k 24 rfl) (lv_at hl 0 rfl) ?_
      refine lv_i2l hx hb (dc tbL_law_14_k 25 rfl) rfl ?_
      refine W.lcmp hx hb (dc tbL_law_14_k 26 rfl) ?_
      refine lv_if_eq (tgt := 1217) hx hb (dc tbL_law_14_k 27 rfl) rfl (fun c13 => ?_) (fun c13 => ?_)
      · have hf := ite_t c13 hf
        refine lv_goto (tgt := 2624) hx hb (dc tbL_law_14_k 30 rfl) rfl ?_
        cases hf
        refine W.widen (k := cells + 64) (n := slots + 512) (by omega) (by omega) ?_
        exact hk _ _ _ hI hJ (lv_sub hl [2, 3, 4, 5, 6, 7] rfl)
      · have hf := ite_f c13 hf
        refine lv_iconst (v := 0) hx hb (dc tbL_law_14_k 28 rfl) ic_0 ?_
        cases hf
  · have hf := ite_f c10 hf
    refine lv_iconst (v := 0) hx hb (dc tbL_law_14_k 17 rfl) ic_0 ?_
    cases hf
def mlc_25 (a1 a2 a3 a4 a5 : Int32) (M N : Mem) : Option (Mem × Mem) := cap (mX6_costSoFar 0 M) (fun r2 => cal (mX7_costSoFar 135 N) (fun N6 r5 => ite2 (r2 = r5) (some (M, N6)) (none)))
set_option maxHeartbeats 4000000 in
set_option maxRecDepth 100000 in
theorem lc_25 (C : Lx p l s m args meth c b L xs G kd kd' ad) (hc : cells + 64 ≤ 600002 ∧ slots + 512 ≤ 7302232) {x5 a0 a1 a2 a3 a4 a5 : Int32} (hs : Sc xs L x5 a0 a1 a2 a3 a4 a5) {M N M' N' : Mem} (hf : mlc_25 a1 a2 a3 a4 a5 M N = some (M', N')) (hk : AtW p l e s m args below meth c G kd kd' ad b x5 M' N' Q (cells + 64) (slots + 512) 2624) : AtW p l e s m args below meth c G kd kd' ad b x5 M N Q cells slots 1220 := by
  intro H locs ls hI hJ hl
  obtain ⟨hx, hb, hml, hown, hts, hK, hap, hap2, hsx, hsx2, hnc, hst, hA, hd1, hd2, hX, hbl, hbA, hk0, hS, hk1, hk3, hk2⟩ := id C
  unfold mlc_25 at hf
  refine lv_aload_n hx hb (dc tbL_law_14_k 31 rfl) rfl (lv_at hl 1 rfl) ?_
  obtain ⟨r2, q1, hf⟩ := cap_s hf
  refine l_calli (g_runV hx hb hml hown hts hK hap hsx hI (tX6_costSoFar l hk0 q1 H.size) cv_X6_costSoFar q_t3_8 rfl rfl ⟨Nat.le_of_ble_eq_true rfl, Nat.le_of_ble_eq_true rfl⟩ hk0.1 (by simp) rfl rfl rfl hl.1 rfl (Nat.le_of_ble_eq_true rfl) (dc tbL_law_14_k 32 rfl) ⟨by have := hc.1; show _ ≤ 600002; omega, by have := hc.2; show _ ≤ 7302232; omega⟩) hI hJ hA hd1 (fun H locs hI hJ => ?_)
  refine lv_aload_n hx hb (dc tbL_law_14_k 33 rfl) rfl (lv_at hl 2 rfl) ?_
  obtain ⟨N6, r5, q4, hf⟩ := cal_s hf
  refine l_calli (g_runV hx hb hml hown hts hK hap2 hsx2 hJ (tX7_costSoFar l hk2 q4 H.size) cv_X7_costSoFar q_t8_207 rfl rfl ⟨Nat.le_of_ble_eq_true rfl, Nat.le_of_ble_eq_true rfl⟩ hk2.1 (by simp) rfl rfl rfl hl.1 rfl (Nat.le_of_ble_eq_true rfl) (dc tbL_law_14_k 34 rfl) ⟨by have := hc.1; show _ ≤ 600002; omega, by have := hc.2; show _ ≤ 7302232; omega⟩) hJ hI hA.symm hd2 (fun H locs hJ hI => ?_)
  refine lv_icmp_eq (tgt := 2624) hx hb (dc tbL_law_14_k 35 rfl) rfl (fun c7 => ?_) (fun c7 => ?_)
  · have hf := ite_t c7 hf
    cases hf
    refine W.widen (k := cells + 64) (n := slots + 512) (by omega) (by omega) ?_
    exact hk _ _ _ hI hJ (lv_sub hl [0, 1, 2, 3, 4, 5] rfl)
  · have hf := ite_f c7 hf
    refine lv_iconst (v := 0) hx hb (dc tbL_law_14_k 36 rfl) ic_0 ?_
    cases hf
def mlc_26 (a1 a2 a3 a4 a5 : Int32) (M N : Mem) : Option (Mem × Mem) := calh (mL_reason 0 152 a1 a2 M) (fun M3 r2 => cal (mX7_reason 135 a1 a2 N) (fun N6 r5 => cap (mX7_thrown 135 N6) (fun r8 => ite2 (r8 = r2) (ite2 (r2 = 0) (chk (okb (0 : Int32) 1) (ite2 ((lg_cmp (rl M3 152 ((0 : Int32)).toNatClampNeg) (r5).toInt64) = 0) (some (M3, N6)) (none))) (some (M3, N6))) (none))))
set_option maxHeartbeats 4000000 in
set_option maxRecDepth 100000 in
theorem lc_26 (C : Lx p l s m args meth c b L xs G kd kd' ad) (hc : cells + 64 ≤ 600002 ∧ slots + 512 ≤ 7302232) {x5 a0 a1 a2 a3 a4 a5 : Int32} (hs : Sc xs L x5 a0 a1 a2 a3 a4 a5) {M N M' N' : Mem} (hf : mlc_26 a1 a2 a3 a4 a5 M N = some (M', N')) (hk : AtW p l e s m args below meth c G kd kd' ad b x5 M' N' Q (cells + 64) (slots + 512) 2624) : AtW p l e s m args below meth c G kd kd' ad b x5 M N Q cells slots 1233 := by
  intro H locs ls hI hJ hl
  obtain ⟨hx, hb, hml, hown, hts, hK, hap, hap2, hsx, hsx2, hnc, hst, hA, hd1, hd2, hX, hbl, hbA, hk0, hS, hk1, hk3, hk2⟩ := id C
  unfold mlc_26 at hf
  refine lv_aload_n hx hb (dc tbL_law_14_k 38 rfl) rfl (lv_at hl 1 rfl) ?_
  refine lv_aload_n hx hb (dc tbL_law_14_k 39 rfl) rfl (lv_at hl 0 rfl) ?_
  refine lv_iload hx hb (dc tbL_law_15_k 0 rfl) (lv_at hl 5 rfl) ?_
  refine lv_iconst (v := 1) hx hb (dc tbL_law_15_k 1 rfl) ic_1 ?_
  refine lv_iadd hx hb (dc tbL_law_15_k 2 rfl) ?_
  refine l_sld hx hb hX hbl hbA hI hs.2.1.1 hs.2.1.2 (dc tbL_law_15_k 3 rfl) ?_
  refine lv_aload_n hx hb (dc tbL_law_15_k 4 rfl) rfl (lv_at hl 0 rfl) ?_
  refine lv_iload hx hb (dc tbL_law_15_k 5 rfl) (lv_at hl 5 rfl) ?_
  refine lv_iconst (v := 2) hx hb (dc tbL_law_15_k 6 rfl) ic_2 ?_
  refine lv_iadd hx hb (dc tbL_law_15_k 7 rfl) ?_
  refine l_sld hx hb hX hbl hbA hI hs.2.2.1.1 hs.2.2.1.2 (dc tbL_law_15_k 8 rfl) ?_
  refine lv_aload_n hx hb (dc tbL_law_15_k 9 rfl) rfl (lv_at hl 3 rfl) ?_
  obtain ⟨M3, r2, q1, hf⟩ := calh_s hf
  refine l_callH (g_runH hx hb hml hown hts hK hap hsx hnc hI (tL_reason l hst hk0 hk1 q1 H.size) ch_L_reason q_t6_90 rfl rfl ⟨Nat.le_of_ble_eq_true rfl, Nat.le_of_ble_eq_true rfl⟩ rfl hl.1 rfl (Nat.le_of_ble_eq_true rfl) (dc tbL_law_15_k 10 rfl) ⟨by have := hc.1; show _ ≤ 600002; omega, by have := hc.2; show _ ≤ 7302232; omega⟩) hI hJ hA hd1 (fun H locs hI hJ => ?_)
  refine lv_istore (lv' := [(6, .int r2), (0, .ref b), (1, .ref (ad 0)), (2, .ref (ad 135)), (3, .ref (ad 152)), (4, .ref (ad 153)), (5, .int x5)]) hx hb (dc tbL_law_15_k 11 rfl) hl (by decide) rfl (fun ls hl => ?_)
  refine lv_aload_n hx hb (dc tbL_law_15_k 12 rfl) rfl (lv_at hl 3 rfl) ?_
  refine lv_aload_n hx hb (dc tbL_law_15_k 13 rfl) rfl (lv_at hl 1 rfl) ?_
  refine lv_iload hx hb (dc tbL_law_15_k 14 rfl) (lv_at hl 6 rfl) ?_
  refine lv_iconst (v := 1) hx hb (dc tbL_law_15_k 15 rfl) ic_1 ?_
  refine lv_iadd hx hb (dc tbL_law_15_k 16 rfl) ?_
  refine l_sld hx hb hX hbl hbA hI hs.2.1.1 hs.2.1.2 (dc tbL_law_15_k 17 rfl) ?_
  refine lv_aload_n hx hb (dc tbL_law_15_k 18 rfl) rfl (lv_at hl 1 rfl) ?_
  refine lv_iload hx hb (dc tbL_law_15_k 19 rfl) (lv_at hl 6 rfl) ?_
  refine lv_iconst (v := 2) hx hb (dc tbL_law_15_k 20 rfl) ic_2 ?_
  refine lv_iadd hx hb (dc tbL_law_15_k 21 rfl) ?_
  refine l_sld hx hb hX hbl hbA hI hs.2.2.1.1 hs.2.2.1.2 (dc tbL_law_15_k 22 rfl) ?_
  obtain ⟨N6, r5, q4, hf⟩ := cal_s hf
  refine l_calli (g_runV hx hb hml hown hts hK hap2 hsx2 hJ (tX7_reason l hk2 q4 H.size) cv_X7_reason q_t8_215 rfl rfl ⟨Nat.le_of_ble_eq_true rfl, Nat.le_of_ble_eq_true rfl⟩ hk2.1 (by simp) rfl rfl rfl hl.1 rfl (Nat.le_of_ble_eq_true rfl) (dc tbL_law_15_k 23 rfl) ⟨by have := hc.1; show _ ≤ 600002; omega, by have := hc.2; show _ ≤ 7302232; omega⟩) hJ hI hA.symm hd2 (fun H locs hJ hI => ?_)
  refine lv_istore (lv' := [(7, .int r5), (6, .int r2), (0, .ref b), (1, .ref (ad 0)), (2, .ref (ad 135)), (3, .ref (ad 152)), (4, .ref (ad 153)), (5, .int x5)]) hx hb (dc tbL_law_15_k 24 rfl) hl (by decide) rfl (fun ls hl => ?_)
  refine lv_aload_n hx hb (dc tbL_law_15_k 25 rfl) rfl (lv_at hl 4 rfl) ?_
  obtain ⟨r8, q7, hf⟩ := cap_s hf
  refine l_calli (g_runV hx hb hml hown hts hK hap2 hsx2 hJ (tX7_thrown l hk2 q7 H.size) cv_X7_thrown q_t7_170 rfl rfl ⟨Nat.le_of_ble_eq_true rfl, Nat.le_of_ble_eq_true rfl⟩ hk2.1 (by simp) rfl rfl rfl hl.1 rfl (Nat.le_of_ble_eq_true rfl) (dc tbL_law_15_k 26 rfl) ⟨by have := hc.1; show _ ≤ 600002; omega, by have := hc.2; show _ ≤ 7302232; omega⟩) hJ hI hA.symm hd2 (fun H locs hJ hI => ?_)
  refine lv_iload hx hb (dc tbL_law_15_k 27 rfl) (lv_at hl 1 rfl) ?_
  refine lv_icmp_eq (tgt := 1281) hx hb (dc tbL_law_15_k 28 rfl) rfl (fun c10 => ?_) (fun c10 => ?_)
  · have hf := ite_t c10 hf
    refine lv_iload hx hb (dc tbL_law_15_k 31 rfl) (lv_at hl 1 rfl) ?_
    refine lv_if_ne (tgt := 1298) hx hb (dc tbL_law_15_k 32 rfl) rfl (fun c11 => ?_) (fun c11 => ?_)
    · have hf := ite_f c11 hf
      refine lv_goto (tgt := 2624) hx hb (dc tbL_law_16_k 2 rfl) rfl ?_
      cases hf
      refine W.widen (k := cells + 64) (n := slots + 512) (by omega) (by omega) ?_
      exact hk _ _ _ hI hJ (lv_sub hl [2, 3, 4, 5, 6, 7] rfl)
    · have hf := ite_t c11 hf
      refine lv_aload_n hx hb (dc tbL_law_15_k 33 rfl) rfl (lv_at hl 5 rfl) ?_
      refine lv_iconst (v := 0) hx hb (dc tbL_law_15_k 34 rfl) ic_0 ?_
      obtain ⟨h12, hf⟩ := chk_s hf
      refine g_lald hx hb hK hI hk1 (okb_in h12) (dc tbL_law_15_k 35 rfl) ?_
      refine lv_iload hx hb (dc tbL_law_15_k 36 rfl) (lv_at hl 0 rfl) ?_
      refine lv_i2l hx hb (dc tbL_law_15_k 37 rfl) rfl ?_
      refine W.lcmp hx hb (dc tbL_law_15_k 38 rfl) ?_
      refine lv_if_eq (tgt := 1298) hx hb (dc tbL_law_15_k 39 rfl) rfl (fun c13 => ?_) (fun c13 => ?_)
      · have hf := ite_t c13 hf
        refine lv_goto (tgt := 2624) hx hb (dc tbL_law_16_k 2 rfl) rfl ?_
        cases hf
        refine W.widen (k := cells + 64) (n := slots + 512) (by omega) (by omega) ?_
        exact hk _ _ _ hI hJ (lv_sub hl [2, 3, 4, 5, 6, 7] rfl)
      · have hf := ite_f c13 hf
        refine lv_iconst (v := 0) hx hb (dc tbL_law_16_k 0 rfl) ic_0 ?_
        cases hf
  · have hf := ite_f c10 hf
    refine lv_iconst (v := 0) hx hb (dc tbL_law_15_k 29 rfl) ic_0 ?_
    cases hf
def mlc_27 (a1 a2 a3 a4 a5 : Int32) (M N : Mem) : Option (Mem × Mem) := calh (mL_gauge 0 152 a1 a2 M) (fun M3 r2 => cal (mX7_gauge 135 a1 a2 N) (fun N6 r5 => cap (mX7_thrown 135 N6) (fun r8 => ite2 (r8 = r2) (ite2 (r2 = 0) (chk (okb (0 : Int32) 1) (ite2 ((lg_cmp (rl M3 152 ((0 : Int32)).toNatClampNeg) (r5).toInt64) = 0) (some (M3, N6)) (none))) (some (M3, N6))) (none))))
set_option maxHeartbeats 4000000 in
set_option maxRecDepth 100000 in
theorem lc_27 (C : Lx p l s m args meth c b L xs G kd kd' ad) (hc : cells + 64 ≤ 600002 ∧ slots + 512 ≤ 7302232) {x5 a0 a1 a2 a3 a4 a5 : Int32} (hs : Sc xs L x5 a0 a1 a2 a3 a4 a5) {M N M' N' : Mem} (hf : mlc_27 a1 a2 a3 a4 a5 M N = some (M', N')) (hk : AtW p l e s m args below meth c G kd kd' ad b x5 M' N' Q (cells + 64) (slots + 512) 2624) : AtW p l e s m args below meth c G kd kd' ad b x5 M N Q cells slots 1301 := by
  intro H locs ls hI hJ hl
  obtain ⟨hx, hb, hml, hown, hts, hK, hap, hap2, hsx, hsx2, hnc, hst, hA, hd1, hd2, hX, hbl, hbA, hk0, hS, hk1, hk3, hk2⟩ := id C
  unfold mlc_27 at hf
  refine lv_aload_n hx hb (dc tbL_law_16_k 3 rfl) rfl (lv_at hl 1 rfl) ?_
  refine lv_aload_n hx hb (dc tbL_law_16_k 4 rfl) rfl (lv_at hl 0 rfl) ?_
  refine lv_iload hx hb (dc tbL_law_16_k 5 rfl) (lv_at hl 5 rfl) ?_
  refine lv_iconst (v := 1) hx hb (dc tbL_law_16_k 6 rfl) ic_1 ?_
  refine lv_iadd hx hb (dc tbL_law_16_k 7 rfl) ?_
  refine l_sld hx hb hX hbl hbA hI hs.2.1.1 hs.2.1.2 (dc tbL_law_16_k 8 rfl) ?_
  refine lv_aload_n hx hb (dc tbL_law_16_k 9 rfl) rfl (lv_at hl 0 rfl) ?_
  refine lv_iload hx hb (dc tbL_law_16_k 10 rfl) (lv_at hl 5 rfl) ?_
  refine lv_iconst (v := 2) hx hb (dc tbL_law_16_k 11 rfl) ic_2 ?_
  refine lv_iadd hx hb (dc tbL_law_16_k 12 rfl) ?_
  refine l_sld hx hb hX hbl hbA hI hs.2.2.1.1 hs.2.2.1.2 (dc tbL_law_16_k 13 rfl) ?_
  refine lv_aload_n hx hb (dc tbL_law_16_k 14 rfl) rfl (lv_at hl 3 rfl) ?_
  obtain ⟨M3, r2, q1, hf⟩ := calh_s hf
  refine l_callH (g_runH hx hb hml hown hts hK hap hsx hnc hI (tL_gauge l hst hk0 hk1 q1 H.size) ch_L_gauge q_t6_106 rfl rfl ⟨Nat.le_of_ble_eq_true rfl, Nat.le_of_ble_eq_true rfl⟩ rfl hl.1 rfl (Nat.le_of_ble_eq_true rfl) (dc tbL_law_16_k 15 rfl) ⟨by have := hc.1; show _ ≤ 600002; omega, by have := hc.2; show _ ≤ 7302232; omega⟩) hI hJ hA hd1 (fun H locs hI hJ => ?_)
  refine lv_istore (lv' := [(6, .int r2), (0, .ref b), (1, .ref (ad 0)), (2, .ref (ad 135)), (3, .ref (ad 152)), (4, .ref (ad 153)), (5, .int x5)]) hx hb (dc tbL_law_16_k 16 rfl) hl (by decide) rfl (fun ls hl => ?_)
  refine lv_aload_n hx hb (dc tbL_law_16_k 17 rfl) rfl (lv_at hl 3 rfl) ?_
  refine lv_aload_n hx hb (dc tbL_law_16_k 18 rfl) rfl (lv_at hl 1 rfl) ?_
  refine lv_iload hx hb (dc tbL_law_16_k 19 rfl) (lv_at hl 6 rfl) ?_
  refine lv_iconst (v := 1) hx hb (dc tbL_law_16_k 20 rfl) ic_1 ?_
  refine lv_iadd hx hb (dc tbL_law_16_k 21 rfl) ?_
  refine l_sld hx hb hX hbl hbA hI hs.2.1.1 hs.2.1.2 (dc tbL_law_16_k 22 rfl) ?_
  refine lv_aload_n hx hb (dc tbL_law_16_k 23 rfl) rfl (lv_at hl 1 rfl) ?_
  refine lv_iload hx hb (dc tbL_law_16_k 24 rfl) (lv_at hl 6 rfl) ?_
  refine lv_iconst (v := 2) hx hb (dc tbL_law_16_k 25 rfl) ic_2 ?_
  refine lv_iadd hx hb (dc tbL_law_16_k 26 rfl) ?_
  refine l_sld hx hb hX hbl hbA hI hs.2.2.1.1 hs.2.2.1.2 (dc tbL_law_16_k 27 rfl) ?_
  obtain ⟨N6, r5, q4, hf⟩ := cal_s hf
  refine l_calli (g_runV hx hb hml hown hts hK hap2 hsx2 hJ (tX7_gauge l hk2 q4 H.size) cv_X7_gauge q_t9_44 rfl rfl ⟨Nat.le_of_ble_eq_true rfl, Nat.le_of_ble_eq_true rfl⟩ hk2.1 (by simp) rfl rfl rfl hl.1 rfl (Nat.le_of_ble_eq_true rfl) (dc tbL_law_16_k 28 rfl) ⟨by have := hc.1; show _ ≤ 600002; omega, by have := hc.2; show _ ≤ 7302232; omega⟩) hJ hI hA.symm hd2 (fun H locs hJ hI => ?_)
  refine lv_istore (lv' := [(7, .int r5), (6, .int r2), (0, .ref b), (1, .ref (ad 0)), (2, .ref (ad 135)), (3, .ref (ad 152)), (4, .ref (ad 153)), (5, .int x5)]) hx hb (dc tbL_law_16_k 29 rfl) hl (by decide) rfl (fun ls hl => ?_)
  refine lv_aload_n hx hb (dc tbL_law_16_k 30 rfl) rfl (lv_at hl 4 rfl) ?_
  obtain ⟨r8, q7, hf⟩ := cap_s hf
  refine l_calli (g_runV hx hb hml hown hts hK hap2 hsx2 hJ (tX7_thrown l hk2 q7 H.size) cv_X7_thrown q_t7_170 rfl rfl ⟨Nat.le_of_ble_eq_true rfl, Nat.le_of_ble_eq_true rfl⟩ hk2.1 (by simp) rfl rfl rfl hl.1 rfl (Nat.le_of_ble_eq_true rfl) (dc tbL_law_16_k 31 rfl) ⟨by have := hc.1; show _ ≤ 600002; omega, by have := hc.2; show _ ≤ 7302232; omega⟩) hJ hI hA.symm hd2 (fun H locs hJ hI => ?_)
  refine lv_iload hx hb (dc tbL_law_16_k 32 rfl) (lv_at hl 1 rfl) ?_
  refine lv_icmp_eq (tgt := 1349) hx hb (dc tbL_law_16_k 33 rfl) rfl (fun c10 => ?_) (fun c10 => ?_)
  · have hf := ite_t c10 hf
    refine lv_iload hx hb (dc tbL_law_16_k 36 rfl) (lv_at hl 1 rfl) ?_
    refine lv_if_ne (tgt := 1366) hx hb (dc tbL_law_16_k 37 rfl) rfl (fun c11 => ?_) (fun c11 => ?_)
    · have hf := ite_f c11 hf
      refine lv_goto (tgt := 2624) hx hb (dc tbL_law_17_k 7 rfl) rfl ?_
      cases hf
      refine W.widen (k := cells + 64) (n := slots + 512) (by omega) (by omega) ?_
      exact hk _ _ _ hI hJ (lv_sub hl [2, 3, 4, 5, 6, 7] rfl)
    · have hf := ite_t c11 hf
      refine lv_aload_n hx hb (dc tbL_law_16_k 38 rfl) rfl (lv_at hl 5 rfl) ?_
      refine lv_iconst (v := 0) hx hb (dc tbL_law_16_k 39 rfl) ic_0 ?_
      obtain ⟨h12, hf⟩ := chk_s hf
      refine g_lald hx hb hK hI hk1 (okb_in h12) (dc tbL_law_17_k 0 rfl) ?_
      refine lv_iload hx hb (dc tbL_law_17_k 1 rfl) (lv_at hl 0 rfl) ?_
      refine lv_i2l hx hb (dc tbL_law_17_k 2 rfl) rfl ?_
      refine W.lcmp hx hb (dc tbL_law_17_k 3 rfl) ?_
      refine lv_if_eq (tgt := 1366) hx hb (dc tbL_law_17_k 4 rfl) rfl (fun c13 => ?_) (fun c13 => ?_)
      · have hf := ite_t c13 hf
        refine lv_goto (tgt := 2624) hx hb (dc tbL_law_17_k 7 rfl) rfl ?_
        cases hf
        refine W.widen (k := cells + 64) (n := slots + 512) (by omega) (by omega) ?_
        exact hk _ _ _ hI hJ (lv_sub hl [2, 3, 4, 5, 6, 7] rfl)
      · have hf := ite_f c13 hf
        refine lv_iconst (v := 0) hx hb (dc tbL_law_17_k 5 rfl) ic_0 ?_
        cases hf
  · have hf := ite_f c10 hf
    refine lv_iconst (v := 0) hx hb (dc tbL_law_16_k 34 rfl) ic_0 ?_
    cases hf
def mlc_28 (a1 a2 a3 a4 a5 : Int32) (M N : Mem) : Option (Mem × Mem) := calh (mL_corner 0 152 a1 a2 a3 a4 M) (fun M3 r2 => cal (mX7_corner 135 a1 a2 a3 a4 N) (fun N6 r5 => cap (mX7_thrown 135 N6) (fun r8 => ite2 (r8 = r2) (ite2 (r2 = 0) (chk (okb (0 : Int32) 1) (ite2 ((lg_cmp (rl M3 152 ((0 : Int32)).toNatClampNeg) (r5).toInt64) = 0) (some (M3, N6)) (none))) (some (M3, N6))) (none))))
set_option maxHeartbeats 4000000 in
set_option maxRecDepth 100000 in
theorem lc_28 (C : Lx p l s m args meth c b L xs G kd kd' ad) (hc : cells + 64 ≤ 600002 ∧ slots + 512 ≤ 7302232) {x5 a0 a1 a2 a3 a4 a5 : Int32} (hs : Sc xs L x5 a0 a1 a2 a3 a4 a5) {M N M' N' : Mem} (hf : mlc_28 a1 a2 a3 a4 a5 M N = some (M', N')) (hk : AtW p l e s m args below meth c G kd kd' ad b x5 M' N' Q (cells + 64) (slots + 512) 2624) : AtW p l e s m args below meth c G kd kd' ad b x5 M N Q cells slots 1369 := by
  intro H locs ls hI hJ hl
  obtain ⟨hx, hb, hml, hown, hts, hK, hap, hap2, hsx, hsx2, hnc, hst, hA, hd1, hd2, hX, hbl, hbA, hk0, hS, hk1, hk3, hk2⟩ := id C
  unfold mlc_28 at hf
  refine lv_aload_n hx hb (dc tbL_law_17_k 8 rfl) rfl (lv_at hl 1 rfl) ?_
  refine lv_aload_n hx hb (dc tbL_law_17_k 9 rfl) rfl (lv_at hl 0 rfl) ?_
  refine lv_iload hx hb (dc tbL_law_17_k 10 rfl) (lv_at hl 5 rfl) ?_
  refine lv_iconst (v := 1) hx hb (dc tbL_law_17_k 11 rfl) ic_1 ?_
  refine lv_iadd hx hb (dc tbL_law_17_k 12 rfl) ?_
  refine l_sld hx hb hX hbl hbA hI hs.2.1.1 hs.2.1.2 (dc tbL_law_17_k 13 rfl) ?_
  refine lv_aload_n hx hb (dc tbL_law_17_k 14 rfl) rfl (lv_at hl 0 rfl) ?_
  refine lv_iload hx hb (dc tbL_law_17_k 15 rfl) (lv_at hl 5 rfl) ?_
  refine lv_iconst (v := 2) hx hb (dc tbL_law_17_k 16 rfl) ic_2 ?_
  refine lv_iadd hx hb (dc tbL_law_17_k 17 rfl) ?_
  refine l_sld hx hb hX hbl hbA hI hs.2.2.1.1 hs.2.2.1.2 (dc tbL_law_17_k 18 rfl) ?_
  refine lv_aload_n hx hb (dc tbL_law_17_k 19 rfl) rfl (lv_at hl 0 rfl) ?_
  refine lv_iload hx hb (dc tbL_law_17_k 20 rfl) (lv_at hl 5 rfl) ?_
  refine lv_iconst (v := 3) hx hb (dc tbL_law_17_k 21 rfl) ic_3 ?_
  refine lv_iadd hx hb (dc tbL_law_17_k 22 rfl) ?_
  refine l_sld hx hb hX hbl hbA hI hs.2.2.2.1.1 hs.2.2.2.1.2 (dc tbL_law_17_k 23 rfl) ?_
  refine lv_aload_n hx hb (dc tbL_law_17_k 24 rfl) rfl (lv_at hl 0 rfl) ?_
  refine lv_iload hx hb (dc tbL_law_17_k 25 rfl) (lv_at hl 5 rfl) ?_
  refine lv_iconst (v := 4) hx hb (dc tbL_law_17_k 26 rfl) ic_4 ?_
  refine lv_iadd hx hb (dc tbL_law_17_k 27 rfl) ?_
  refine l_sld hx hb hX hbl hbA hI hs.2.2.2.2.1.1 hs.2.2.2.2.1.2 (dc tbL_law_17_k 28 rfl) ?_
  refine lv_aload_n hx hb (dc tbL_law_17_k 29 rfl) rfl (lv_at hl 3 rfl) ?_
  obtain ⟨M3, r2, q1, hf⟩ := calh_s hf
  refine l_callH (g_runH hx hb hml hown hts hK hap hsx hnc hI (tL_corner l hst hk0 hk1 q1 H.size) ch_L_corner q_t6_119 rfl rfl ⟨Nat.le_of_ble_eq_true rfl, Nat.le_of_ble_eq_true rfl⟩ rfl hl.1 rfl (Nat.le_of_ble_eq_true rfl) (dc tbL_law_17_k 30 rfl) ⟨by have := hc.1; show _ ≤ 600002; omega, by have := hc.2; show _ ≤ 7302232; omega⟩) hI hJ hA hd1 (fun H locs hI hJ => ?_)
  refine lv_istore (lv' := [(6, .int r2), (0, .ref b), (1, .ref (ad 0)), (2, .ref (ad 135)), (3, .ref (ad 152)), (4, .ref (ad 153)), (5, .int x5)]) hx hb (dc tbL_law_17_k 31 rfl) hl (by decide) rfl (fun ls hl => ?_)
  refine lv_aload_n hx hb (dc tbL_law_17_k 32 rfl) rfl (lv_at hl 3 rfl) ?_
  refine lv_aload_n hx hb (dc tbL_law_17_k 33 rfl) rfl (lv_at hl 1 rfl) ?_
  refine lv_iload hx hb (dc tbL_law_17_k 34 rfl) (lv_at hl 6 rfl) ?_
  refine lv_iconst (v := 1) hx hb (dc tbL_law_17_k 35 rfl) ic_1 ?_
  refine lv_iadd hx hb (dc tbL_law_17_k 36 rfl) ?_
  refine l_sld hx hb hX hbl hbA hI hs.2.1.1 hs.2.1.2 (dc tbL_law_17_k 37 rfl) ?_
  refine lv_aload_n hx hb (dc tbL_law_17_k 38 rfl) rfl (lv_at hl 1 rfl) ?_
  refine lv_iload hx hb (dc tbL_law_17_k 39 rfl) (lv_at hl 6 rfl) ?_
  refine lv_iconst (v := 2) hx hb (dc tbL_law_18_k 0 rfl) ic_2 ?_
  refine lv_iadd hx hb (dc tbL_law_18_k 1 rfl) ?_
  refine l_sld hx hb hX hbl hbA hI hs.2.2.1.1 hs.2.2.1.2 (dc tbL_law_18_k 2 rfl) ?_
  refine lv_aload_n hx hb (dc tbL_law_18_k 3 rfl) rfl (lv_at hl 1 rfl) ?_
  refine lv_iload hx hb (dc tbL_law_18_k 4 rfl) (lv_at hl 6 rfl) ?_
  refine lv_iconst (v := 3) hx hb (dc tbL_law_18_k 5 rfl) ic_3 ?_
  refine lv_iadd hx hb (dc tbL_law_18_k 6 rfl) ?_
  refine l_sld hx hb hX hbl hbA hI hs.2.2.2.1.1 hs.2.2.2.1.2 (dc tbL_law_18_k 7 rfl) ?_
  refine lv_aload_n hx hb (dc tbL_law_18_k 8 rfl) rfl (lv_at hl 1 rfl) ?_
  refine lv_iload hx hb (dc tbL_law_18_k 9 rfl) (lv_at hl 6 rfl) ?_
  refine lv_iconst (v := 4) hx hb (dc tbL_law_18_k 10 rfl) ic_4 ?_
  refine lv_iadd hx hb (dc tbL_law_18_k 11 rfl) ?_
  refine l_sld hx hb hX hbl hbA hI hs.2.2.2.2.1.1 hs.2.2.2.2.1.2 (dc tbL_law_18_k 12 rfl) ?_
  obtain ⟨N6, r5, q4, hf⟩ := cal_s hf
  refine l_calli (g_runV hx hb hml hown hts hK hap2 hsx2 hJ (tX7_corner l hk2 q4 H.size) cv_X7_corner q_t9_52 rfl rfl ⟨Nat.le_of_ble_eq_true rfl, Nat.le_of_ble_eq_true rfl⟩ hk2.1 (by simp) rfl rfl rfl hl.1 rfl (Nat.le_of_ble_eq_true rfl) (dc tbL_law_18_k 13 rfl) ⟨by have := hc.1; show _ ≤ 600002; omega, by have := hc.2; show _ ≤ 7302232; omega⟩) hJ hI hA.symm hd2 (fun H locs hJ hI => ?_)
  refine lv_istore (lv' := [(7, .int r5), (6, .int r2), (0, .ref b), (1, .ref (ad 0)), (2, .ref (ad 135)), (3, .ref (ad 152)), (4, .ref (ad 153)), (5, .int x5)]) hx hb (dc tbL_law_18_k 14 rfl) hl (by decide) rfl (fun ls hl => ?_)
  refine lv_aload_n hx hb (dc tbL_law_18_k 15 rfl) rfl (lv_at hl 4 rfl) ?_
  obtain ⟨r8, q7, hf⟩ := cap_s hf
  refine l_calli (g_runV hx hb hml hown hts hK hap2 hsx2 hJ (tX7_thrown l hk2 q7 H.size) cv_X7_thrown q_t7_170 rfl rfl ⟨Nat.le_of_ble_eq_true rfl, Nat.le_of_ble_eq_true rfl⟩ hk2.1 (by simp) rfl rfl rfl hl.1 rfl (Nat.le_of_ble_eq_true rfl) (dc tbL_law_18_k 16 rfl) ⟨by have := hc.1; show _ ≤ 600002; omega, by have := hc.2; show _ ≤ 7302232; omega⟩) hJ hI hA.symm hd2 (fun H locs hJ hI => ?_)
  refine lv_iload hx hb (dc tbL_law_18_k 17 rfl) (lv_at hl 1 rfl) ?_
  refine lv_icmp_eq (tgt := 1441) hx hb (dc tbL_law_18_k 18 rfl) rfl (fun c10 => ?_) (fun c10 => ?_)
  · have hf := ite_t c10 hf
    refine lv_iload hx hb (dc tbL_law_18_k 21 rfl) (lv_at hl 1 rfl) ?_
    refine lv_if_ne (tgt := 1458) hx hb (dc tbL_law_18_k 22 rfl) rfl (fun c11 => ?_) (fun c11 => ?_)
    · have hf := ite_f c11 hf
      refine lv_goto (tgt := 2624) hx hb (dc tbL_law_18_k 32 rfl) rfl ?_
      cases hf
      refine W.widen (k := cells + 64) (n := slots + 512) (by omega) (by omega) ?_
      exact hk _ _ _ hI hJ (lv_sub hl [2, 3, 4, 5, 6, 7] rfl)
    · have hf := ite_t c11 hf
      refine lv_aload_n hx hb (dc tbL_law_18_k 23 rfl) rfl (lv_at hl 5 rfl) ?_
      refine lv_iconst (v := 0) hx hb (dc tbL_law_18_k 24 rfl) ic_0 ?_
      obtain ⟨h12, hf⟩ := chk_s hf
      refine g_lald hx hb hK hI hk1 (okb_in h12) (dc tbL_law_18_k 25 rfl) ?_
      refine lv_iload hx hb (dc tbL_law_18_k 26 rfl) (lv_at hl 0 rfl) ?_
      refine lv_i2l hx hb (dc tbL_law_18_k 27 rfl) rfl ?_
      refine W.lcmp hx hb (dc tbL_law_18_k 28 rfl) ?_
      refine lv_if_eq (tgt := 1458) hx hb (dc tbL_law_18_k 29 rfl) rfl (fun c13 => ?_) (fun c13 => ?_)
      · have hf := ite_t c13 hf
        refine lv_goto (tgt := 2624) hx hb (dc tbL_law_18_k 32 rfl) rfl ?_
        cases hf
        refine W.widen (k := cells + 64) (n := slots + 512) (by omega) (by omega) ?_
        exact hk _ _ _ hI hJ (lv_sub hl [2, 3, 4, 5, 6, 7] rfl)
      · have hf := ite_f c13 hf
        refine lv_iconst (v := 0) hx hb (dc tbL_law_18_k 30 rfl) ic_0 ?_
        cases hf
  · have hf := ite_f c10 hf
    refine lv_iconst (v := 0) hx hb (dc tbL_law_18_k 19 rfl) ic_0 ?_
    cases hf
def mlc_29 (a1 a2 a3 a4 a5 : Int32) (M N : Mem) : Option (Mem × Mem) := calh (mL_top 0 152 a1 a2 M) (fun M3 r2 => cal (mX7_top 135 a1 a2 N) (fun N6 r5 => cap (mX7_thrown 135 N6) (fun r8 => ite2 (r8 = r2) (ite2 (r2 = 0) (chk (okb (0 : Int32) 1) (ite2 ((lg_cmp (rl M3 152 ((0 : Int32)).toNatClampNeg) (r5).toInt64) = 0) (some (M3, N6)) (none))) (some (M3, N6))) (none))))
set_option maxHeartbeats 4000000 in
set_option maxRecDepth 100000 in
theorem lc_29 (C : Lx p l s m args meth c b L xs G kd kd' ad) (hc : cells + 64 ≤ 600002 ∧ slots + 512 ≤ 7302232) {x5 a0 a1 a2 a3 a4 a5 : Int32} (hs : Sc xs L x5 a0 a1 a2 a3 a4 a5) {M N M' N' : Mem} (hf : mlc_29 a1 a2 a3 a4 a5 M N = some (M', N')) (hk : AtW p l e s m args below meth c G kd kd' ad b x5 M' N' Q (cells + 64) (slots + 512) 2624) : AtW p l e s m args below meth c G kd kd' ad b x5 M N Q cells slots 1461 := by
  intro H locs ls hI hJ hl
  obtain ⟨hx, hb, hml, hown, hts, hK, hap, hap2, hsx, hsx2, hnc, hst, hA, hd1, hd2, hX, hbl, hbA, hk0, hS, hk1, hk3, hk2⟩ := id C
  unfold mlc_29 at hf
  refine lv_aload_n hx hb (dc tbL_law_18_k 33 rfl) rfl (lv_at hl 1 rfl) ?_
  refine lv_aload_n hx hb (dc tbL_law_18_k 34 rfl) rfl (lv_at hl 0 rfl) ?_
  refine lv_iload hx hb (dc tbL_law_18_k 35 rfl) (lv_at hl 5 rfl) ?_
  refine lv_iconst (v := 1) hx hb (dc tbL_law_18_k 36 rfl) ic_1 ?_
  refine lv_iadd hx hb (dc tbL_law_18_k 37 rfl) ?_
  refine l_sld hx hb hX hbl hbA hI hs.2.1.1 hs.2.1.2 (dc tbL_law_18_k 38 rfl) ?_
  refine lv_aload_n hx hb (dc tbL_law_18_k 39 rfl) rfl (lv_at hl 0 rfl) ?_
  refine lv_iload hx hb (dc tbL_law_19_k 0 rfl) (lv_at hl 5 rfl) ?_
  refine lv_iconst (v := 2) hx hb (dc tbL_law_19_k 1 rfl) ic_2 ?_
  refine lv_iadd hx hb (dc tbL_law_19_k 2 rfl) ?_
  refine l_sld hx hb hX hbl hbA hI hs.2.2.1.1 hs.2.2.1.2 (dc tbL_law_19_k 3 rfl) ?_
  refine lv_aload_n hx hb (dc tbL_law_19_k 4 rfl) rfl (lv_at hl 3 rfl) ?_
  obtain ⟨M3, r2, q1, hf⟩ := calh_s hf
  refine l_callH (g_runH hx hb hml hown hts hK hap hsx hnc hI (tL_top l hst hk0 hk1 q1 H.size) ch_L_top q_t6_126 rfl rfl ⟨Nat.le_of_ble_eq_true rfl, Nat.le_of_ble_eq_true rfl⟩ rfl hl.1 rfl (Nat.le_of_ble_eq_true rfl) (dc tbL_law_19_k 5 rfl) ⟨by have := hc.1; show _ ≤ 600002; omega, by have := hc.2; show _ ≤ 7302232; omega⟩) hI hJ hA hd1 (fun H locs hI hJ => ?_)
  refine lv_istore (lv' := [(6, .int r2), (0, .ref b), (1, .ref (ad 0)), (2, .ref (ad 135)), (3, .ref (ad 152)), (4, .ref (ad 153)), (5, .int x5)]) hx hb (dc tbL_law_19_k 6 rfl) hl (by decide) rfl (fun ls hl => ?_)
  refine lv_aload_n hx hb (dc tbL_law_19_k 7 rfl) rfl (lv_at hl 3 rfl) ?_
  refine lv_aload_n hx hb (dc tbL_law_19_k 8 rfl) rfl (lv_at hl 1 rfl) ?_
  refine lv_iload hx hb (dc tbL_law_19_k 9 rfl) (lv_at hl 6 rfl) ?_
  refine lv_iconst (v := 1) hx hb (dc tbL_law_19_k 10 rfl) ic_1 ?_
  refine lv_iadd hx hb (dc tbL_law_19_k 11 rfl) ?_
  refine l_sld hx hb hX hbl hbA hI hs.2.1.1 hs.2.1.2 (dc tbL_law_19_k 12 rfl) ?_
  refine lv_aload_n hx hb (dc tbL_law_19_k 13 rfl) rfl (lv_at hl 1 rfl) ?_
  refine lv_iload hx hb (dc tbL_law_19_k 14 rfl) (lv_at hl 6 rfl) ?_
  refine lv_iconst (v := 2) hx hb (dc tbL_law_19_k 15 rfl) ic_2 ?_
  refine lv_iadd hx hb (dc tbL_law_19_k 16 rfl) ?_
  refine l_sld hx hb hX hbl hbA hI hs.2.2.1.1 hs.2.2.1.2 (dc tbL_law_19_k 17 rfl) ?_
  obtain ⟨N6, r5, q4, hf⟩ := cal_s hf
  refine l_calli (g_runV hx hb hml hown hts hK hap2 hsx2 hJ (tX7_top l hk2 q4 H.size) cv_X7_top q_t9_56 rfl rfl ⟨Nat.le_of_ble_eq_true rfl, Nat.le_of_ble_eq_true rfl⟩ hk2.1 (by simp) rfl rfl rfl hl.1 rfl (Nat.le_of_ble_eq_true rfl) (dc tbL_law_19_k 18 rfl) ⟨by have := hc.1; show _ ≤ 600002; omega, by have := hc.2; show _ ≤ 7302232; omega⟩) hJ hI hA.symm hd2 (fun H locs hJ hI => ?_)
  refine lv_istore (lv' := [(7, .int r5), (6, .int r2), (0, .ref b), (1, .ref (ad 0)), (2, .ref (ad 135)), (3, .ref (ad 152)), (4, .ref (ad 153)), (5, .int x5)]) hx hb (dc tbL_law_19_k 19 rfl) hl (by decide) rfl (fun ls hl => ?_)
  refine lv_aload_n hx hb (dc tbL_law_19_k 20 rfl) rfl (lv_at hl 4 rfl) ?_
  obtain ⟨r8, q7, hf⟩ := cap_s hf
  refine l_calli (g_runV hx hb hml hown hts hK hap2 hsx2 hJ (tX7_thrown l hk2 q7 H.size) cv_X7_thrown q_t7_170 rfl rfl ⟨Nat.le_of_ble_eq_true rfl, Nat.le_of_ble_eq_true rfl⟩ hk2.1 (by simp) rfl rfl rfl hl.1 rfl (Nat.le_of_ble_eq_true rfl) (dc tbL_law_19_k 21 rfl) ⟨by have := hc.1; show _ ≤ 600002; omega, by have := hc.2; show _ ≤ 7302232; omega⟩) hJ hI hA.symm hd2 (fun H locs hJ hI => ?_)
  refine lv_iload hx hb (dc tbL_law_19_k 22 rfl) (lv_at hl 1 rfl) ?_
  refine lv_icmp_eq (tgt := 1509) hx hb (dc tbL_law_19_k 23 rfl) rfl (fun c10 => ?_) (fun c10 => ?_)
  · have hf := ite_t c10 hf
    refine lv_iload hx hb (dc tbL_law_19_k 26 rfl) (lv_at hl 1 rfl) ?_
    refine lv_if_ne (tgt := 1526) hx hb (dc tbL_law_19_k 27 rfl) rfl (fun c11 => ?_) (fun c11 => ?_)
    · have hf := ite_f c11 hf
      refine lv_goto (tgt := 2624) hx hb (dc tbL_law_19_k 37 rfl) rfl ?_
      cases hf
      refine W.widen (k := cells + 64) (n := slots + 512) (by omega) (by omega) ?_
      exact hk _ _ _ hI hJ (lv_sub hl [2, 3, 4, 5, 6, 7] rfl)
    · have hf := ite_t c11 hf
      refine lv_aload_n hx hb (dc tbL_law_19_k 28 rfl) rfl (lv_at hl 5 rfl) ?_
      refine lv_iconst (v := 0) hx hb (dc tbL_law_19_k 29 rfl) ic_0 ?_
      obtain ⟨h12, hf⟩ := chk_s hf
      refine g_lald hx hb hK hI hk1 (okb_in h12) (dc tbL_law_19_k 30 rfl) ?_
      refine lv_iload hx hb (dc tbL_law_19_k 31 rfl) (lv_at hl 0 rfl) ?_
      refine lv_i2l hx hb (dc tbL_law_19_k 32 rfl) rfl ?_
      refine W.lcmp hx hb (dc tbL_law_19_k 33 rfl) ?_
      refine lv_if_eq (tgt := 1526) hx hb (dc tbL_law_19_k 34 rfl) rfl (fun c13 => ?_) (fun c13 => ?_)
      · have hf := ite_t c13 hf
        refine lv_goto (tgt := 2624) hx hb (dc tbL_law_19_k 37 rfl) rfl ?_
        cases hf
        refine W.widen (k := cells + 64) (n := slots + 512) (by omega) (by omega) ?_
        exact hk _ _ _ hI hJ (lv_sub hl [2, 3, 4, 5, 6, 7] rfl)
      · have hf := ite_f c13 hf
        refine lv_iconst (v := 0) hx hb (dc tbL_law_19_k 35 rfl) ic_0 ?_
        cases hf
  · have hf := ite_f c10 hf
    refine lv_iconst (v := 0) hx hb (dc tbL_law_19_k 24 rfl) ic_0 ?_
    cases hf
def mlc_30 (a1 a2 a3 a4 a5 : Int32) (M N : Mem) : Option (Mem × Mem) := calh (mL_hitting 0 152 a1 a2 M) (fun M3 r2 => cal (mX7_hitting 135 a1 a2 N) (fun N6 r5 => cap (mX7_thrown 135 N6) (fun r8 => ite2 (r8 = r2) (ite2 (r2 = 0) (chk (okb (0 : Int32) 1) (ite2 ((lg_cmp (rl M3 152 ((0 : Int32)).toNatClampNeg) (r5).toInt64) = 0) (some (M3, N6)) (none))) (some (M3, N6))) (none))))
set_option maxHeartbeats 4000000 in
set_option maxRecDepth 100000 in
theorem lc_30 (C : Lx p l s m args meth c b L xs G kd kd' ad) (hc : cells + 64 ≤ 600002 ∧ slots + 512 ≤ 7302232) {x5 a0 a1 a2 a3 a4 a5 : Int32} (hs : Sc xs L x5 a0 a1 a2 a3 a4 a5) {M N M' N' : Mem} (hf : mlc_30 a1 a2 a3 a4 a5 M N = some (M', N')) (hk : AtW p l e s m args below meth c G kd kd' ad b x5 M' N' Q (cells + 64) (slots + 512) 2624) : AtW p l e s m args below meth c G kd kd' ad b x5 M N Q cells slots 1529 := by
  intro H locs ls hI hJ hl
  obtain ⟨hx, hb, hml, hown, hts, hK, hap, hap2, hsx, hsx2, hnc, hst, hA, hd1, hd2, hX, hbl, hbA, hk0, hS, hk1, hk3, hk2⟩ := id C
  unfold mlc_30 at hf
  refine lv_aload_n hx hb (dc tbL_law_19_k 38 rfl) rfl (lv_at hl 1 rfl) ?_
  refine lv_aload_n hx hb (dc tbL_law_19_k 39 rfl) rfl (lv_at hl 0 rfl) ?_
  refine lv_iload hx hb (dc tbL_law_20_k 0 rfl) (lv_at hl 5 rfl) ?_
  refine lv_iconst (v := 1) hx hb (dc tbL_law_20_k 1 rfl) ic_1 ?_
  refine lv_iadd hx hb (dc tbL_law_20_k 2 rfl) ?_
  refine l_sld hx hb hX hbl hbA hI hs.2.1.1 hs.2.1.2 (dc tbL_law_20_k 3 rfl) ?_
  refine lv_aload_n hx hb (dc tbL_law_20_k 4 rfl) rfl (lv_at hl 0 rfl) ?_
  refine lv_iload hx hb (dc tbL_law_20_k 5 rfl) (lv_at hl 5 rfl) ?_
  refine lv_iconst (v := 2) hx hb (dc tbL_law_20_k 6 rfl) ic_2 ?_
  refine lv_iadd hx hb (dc tbL_law_20_k 7 rfl) ?_
  refine l_sld hx hb hX hbl hbA hI hs.2.2.1.1 hs.2.2.1.2 (dc tbL_law_20_k 8 rfl) ?_
  refine lv_aload_n hx hb (dc tbL_law_20_k 9 rfl) rfl (lv_at hl 3 rfl) ?_
  obtain ⟨M3, r2, q1, hf⟩ := calh_s hf
  refine l_callH (g_runH hx hb hml hown hts hK hap hsx hnc hI (tL_hitting l hst hk0 hk1 q1 H.size) ch_L_hitting q_t6_137 rfl rfl ⟨Nat.le_of_ble_eq_true rfl, Nat.le_of_ble_eq_true rfl⟩ rfl hl.1 rfl (Nat.le_of_ble_eq_true rfl) (dc tbL_law_20_k 10 rfl) ⟨by have := hc.1; show _ ≤ 600002; omega, by have := hc.2; show _ ≤ 7302232; omega⟩) hI hJ hA hd1 (fun H locs hI hJ => ?_)
  refine lv_istore (lv' := [(6, .int r2), (0, .ref b), (1, .ref (ad 0)), (2, .ref (ad 135)), (3, .ref (ad 152)), (4, .ref (ad 153)), (5, .int x5)]) hx hb (dc tbL_law_20_k 11 rfl) hl (by decide) rfl (fun ls hl => ?_)
  refine lv_aload_n hx hb (dc tbL_law_20_k 12 rfl) rfl (lv_at hl 3 rfl) ?_
  refine lv_aload_n hx hb (dc tbL_law_20_k 13 rfl) rfl (lv_at hl 1 rfl) ?_
  refine lv_iload hx hb (dc tbL_law_20_k 14 rfl) (lv_at hl 6 rfl) ?_
  refine lv_iconst (v := 1) hx hb (dc tbL_law_20_k 15 rfl) ic_1 ?_
  refine lv_iadd hx hb (dc tbL_law_20_k 16 rfl) ?_
  refine l_sld hx hb hX hbl hbA hI hs.2.1.1 hs.2.1.2 (dc tbL_law_20_k 17 rfl) ?_
  refine lv_aload_n hx hb (dc tbL_law_20_k 18 rfl) rfl (lv_at hl 1 rfl) ?_
  refine lv_iload hx hb (dc tbL_law_20_k 19 rfl) (lv_at hl 6 rfl) ?_
  refine lv_iconst (v := 2) hx hb (dc tbL_law_20_k 20 rfl) ic_2 ?_
  refine lv_iadd hx hb (dc tbL_law_20_k 21 rfl) ?_
  refine l_sld hx hb hX hbl hbA hI hs.2.2.1.1 hs.2.2.1.2 (dc tbL_law_20_k 22 rfl) ?_
  obtain ⟨N6, r5, q4, hf⟩ := cal_s hf
  refine l_calli (g_runV hx hb hml hown hts hK hap2 hsx2 hJ (tX7_hitting l hk2 q4 H.size) cv_X7_hitting q_t9_60 rfl rfl ⟨Nat.le_of_ble_eq_true rfl, Nat.le_of_ble_eq_true rfl⟩ hk2.1 (by simp) rfl rfl rfl hl.1 rfl (Nat.le_of_ble_eq_true rfl) (dc tbL_law_20_k 23 rfl) ⟨by have := hc.1; show _ ≤ 600002; omega, by have := hc.2; show _ ≤ 7302232; omega⟩) hJ hI hA.symm hd2 (fun H locs hJ hI => ?_)
  refine lv_istore (lv' := [(7, .int r5), (6, .int r2), (0, .ref b), (1, .ref (ad 0)), (2, .ref (ad 135)), (3, .ref (ad 152)), (4, .ref (ad 153)), (5, .int x5)]) hx hb (dc tbL_law_20_k 24 rfl) hl (by decide) rfl (fun ls hl => ?_)
  refine lv_aload_n hx hb (dc tbL_law_20_k 25 rfl) rfl (lv_at hl 4 rfl) ?_
  obtain ⟨r8, q7, hf⟩ := cap_s hf
  refine l_calli (g_runV hx hb hml hown hts hK hap2 hsx2 hJ (tX7_thrown l hk2 q7 H.size) cv_X7_thrown q_t7_170 rfl rfl ⟨Nat.le_of_ble_eq_true rfl, Nat.le_of_ble_eq_true rfl⟩ hk2.1 (by simp) rfl rfl rfl hl.1 rfl (Nat.le_of_ble_eq_true rfl) (dc tbL_law_20_k 26 rfl) ⟨by have := hc.1; show _ ≤ 600002; omega, by have := hc.2; show _ ≤ 7302232; omega⟩) hJ hI hA.symm hd2 (fun H locs hJ hI => ?_)
  refine lv_iload hx hb (dc tbL_law_20_k 27 rfl) (lv_at hl 1 rfl) ?_
  refine lv_icmp_eq (tgt := 1577) hx hb (dc tbL_law_20_k 28 rfl) rfl (fun c10 => ?_) (fun c10 => ?_)
  · have hf := ite_t c10 hf
    refine lv_iload hx hb (dc tbL_law_20_k 31 rfl) (lv_at hl 1 rfl) ?_
    refine lv_if_ne (tgt := 1594) hx hb (dc tbL_law_20_k 32 rfl) rfl (fun c11 => ?_) (fun c11 => ?_)
    · have hf := ite_f c11 hf
      refine lv_goto (tgt := 2624) hx hb (dc tbL_law_21_k 2 rfl) rfl ?_
      cases hf
      refine W.widen (k := cells + 64) (n := slots + 512) (by omega) (by omega) ?_
      exact hk _ _ _ hI hJ (lv_sub hl [2, 3, 4, 5, 6, 7] rfl)
    · have hf := ite_t c11 hf
      refine lv_aload_n hx hb (dc tbL_law_20_k 33 rfl) rfl (lv_at hl 5 rfl) ?_
      refine lv_iconst (v := 0) hx hb (dc tbL_law_20_k 34 rfl) ic_0 ?_
      obtain ⟨h12, hf⟩ := chk_s hf
      refine g_lald hx hb hK hI hk1 (okb_in h12) (dc tbL_law_20_k 35 rfl) ?_
      refine lv_iload hx hb (dc tbL_law_20_k 36 rfl) (lv_at hl 0 rfl) ?_
      refine lv_i2l hx hb (dc tbL_law_20_k 37 rfl) rfl ?_
      refine W.lcmp hx hb (dc tbL_law_20_k 38 rfl) ?_
      refine lv_if_eq (tgt := 1594) hx hb (dc tbL_law_20_k 39 rfl) rfl (fun c13 => ?_) (fun c13 => ?_)
      · have hf := ite_t c13 hf
        refine lv_goto (tgt := 2624) hx hb (dc tbL_law_21_k 2 rfl) rfl ?_
        cases hf
        refine W.widen (k := cells + 64) (n := slots + 512) (by omega) (by omega) ?_
        exact hk _ _ _ hI hJ (lv_sub hl [2, 3, 4, 5, 6, 7] rfl)
      · have hf := ite_f c13 hf
        refine lv_iconst (v := 0) hx hb (dc tbL_law_21_k 0 rfl) ic_0 ?_
        cases hf
  · have hf := ite_f c10 hf
    refine lv_iconst (v := 0) hx hb (dc tbL_law_20_k 29 rfl) ic_0 ?_
    cases hf
def mlc_31 (a1 a2 a3 a4 a5 : Int32) (M N : Mem) : Option (Mem × Mem) := calh (mL_refused 0 152 a1 M) (fun M3 r2 => cal (mX7_refused 135 a1 N) (fun N6 r5 => cap (mX7_thrown 135 N6) (fun r8 => ite2 (r8 = r2) (ite2 (r2 = 0) (chk (okb (0 : Int32) 1) (ite2 ((lg_cmp (rl M3 152 ((0 : Int32)).toNatClampNeg) (r5).toInt64) = 0) (some (M3, N6)) (none))) (some (M3, N6))) (none))))
set_option maxHeartbeats 4000000 in
set_option maxRecDepth 100000 in
theorem lc_31 (C : Lx p l s m args meth c b L xs G kd kd' ad) (hc : cells + 64 ≤ 600002 ∧ slots + 512 ≤ 7302232) {x5 a0 a1 a2 a3 a4 a5 : Int32} (hs : Sc xs L x5 a0 a1 a2 a3 a4 a5) {M N M' N' : Mem} (hf : mlc_31 a1 a2 a3 a4 a5 M N = some (M', N')) (hk : AtW p l e s m args below meth c G kd kd' ad b x5 M' N' Q (cells + 64) (slots + 512) 2624) : AtW p l e s m args below meth c G kd kd' ad b x5 M N Q cells slots 1597 := by
  intro H locs ls hI hJ hl
  obtain ⟨hx, hb, hml, hown, hts, hK, hap, hap2, hsx, hsx2, hnc, hst, hA, hd1, hd2, hX, hbl, hbA, hk0, hS, hk1, hk3, hk2⟩ := id C
  unfold mlc_31 at hf
  refine lv_aload_n hx hb (dc tbL_law_21_k 3 rfl) rfl (lv_at hl 1 rfl) ?_
  refine lv_aload_n hx hb (dc tbL_law_21_k 4 rfl) rfl (lv_at hl 0 rfl) ?_
  refine lv_iload hx hb (dc tbL_law_21_k 5 rfl) (lv_at hl 5 rfl) ?_
  refine lv_iconst (v := 1) hx hb (dc tbL_law_21_k 6 rfl) ic_1 ?_
  refine lv_iadd hx hb (dc tbL_law_21_k 7 rfl) ?_
  refine l_sld hx hb hX hbl hbA hI hs.2.1.1 hs.2.1.2 (dc tbL_law_21_k 8 rfl) ?_
  refine lv_aload_n hx hb (dc tbL_law_21_k 9 rfl) rfl (lv_at hl 3 rfl) ?_
  obtain ⟨M3, r2, q1, hf⟩ := calh_s hf
  refine l_callH (g_runH hx hb hml hown hts hK hap hsx hnc hI (tL_refused l hst hk0 hk1 q1 H.size) ch_L_refused q_t6_145 rfl rfl ⟨Nat.le_of_ble_eq_true rfl, Nat.le_of_ble_eq_true rfl⟩ rfl hl.1 rfl (Nat.le_of_ble_eq_true rfl) (dc tbL_law_21_k 10 rfl) ⟨by have := hc.1; show _ ≤ 600002; omega, by have := hc.2; show _ ≤ 7302232; omega⟩) hI hJ hA hd1 (fun H locs hI hJ => ?_)
  refine lv_istore (lv' := [(6, .int r2), (0, .ref b), (1, .ref (ad 0)), (2, .ref (ad 135)), (3, .ref (ad 152)), (4, .ref (ad 153)), (5, .int x5)]) hx hb (dc tbL_law_21_k 11 rfl) hl (by decide) rfl (fun ls hl => ?_)
  refine lv_aload_n hx hb (dc tbL_law_21_k 12 rfl) rfl (lv_at hl 3 rfl) ?_
  refine lv_aload_n hx hb (dc tbL_law_21_k 13 rfl) rfl (lv_at hl 1 rfl) ?_
  refine lv_iload hx hb (dc tbL_law_21_k 14 rfl) (lv_at hl 6 rfl) ?_
  refine lv_iconst (v := 1) hx hb (dc tbL_law_21_k 15 rfl) ic_1 ?_
  refine lv_iadd hx hb (dc tbL_law_21_k 16 rfl) ?_
  refine l_sld hx hb hX hbl hbA hI hs.2.1.1 hs.2.1.2 (dc tbL_law_21_k 17 rfl) ?_
  obtain ⟨N6, r5, q4, hf⟩ := cal_s hf
  refine l_calli (g_runV hx hb hml hown hts hK hap2 hsx2 hJ (tX7_refused l hk2 q4 H.size) cv_X7_refused q_t9_64 rfl rfl ⟨Nat.le_of_ble_eq_true rfl, Nat.le_of_ble_eq_true rfl⟩ hk2.1 (by simp) rfl rfl rfl hl.1 rfl (Nat.le_of_ble_eq_true rfl) (dc tbL_law_21_k 18 rfl) ⟨by have := hc.1; show _ ≤ 600002; omega, by have := hc.2; show _ ≤ 7302232; omega⟩) hJ hI hA.symm hd2 (fun H locs hJ hI => ?_)
  refine lv_istore (lv' := [(7, .int r5), (6, .int r2), (0, .ref b), (1, .ref (ad 0)), (2, .ref (ad 135)), (3, .ref (ad 152)), (4, .ref (ad 153)), (5, .int x5)]) hx hb (dc tbL_law_21_k 19 rfl) hl (by decide) rfl (fun ls hl => ?_)
  refine lv_aload_n hx hb (dc tbL_law_21_k 20 rfl) rfl (lv_at hl 4 rfl) ?_
  obtain ⟨r8, q7, hf⟩ := cap_s hf
  refine l_calli (g_runV hx hb hml hown hts hK hap2 hsx2 hJ (tX7_thrown l hk2 q7 H.size) cv_X7_thrown q_t7_170 rfl rfl ⟨Nat.le_of_ble_eq_true rfl, Nat.le_of_ble_eq_true rfl⟩ hk2.1 (by simp) rfl rfl rfl hl.1 rfl (Nat.le_of_ble_eq_true rfl) (dc tbL_law_21_k 21 rfl) ⟨by have := hc.1; show _ ≤ 600002; omega, by have := hc.2; show _ ≤ 7302232; omega⟩) hJ hI hA.symm hd2 (fun H locs hJ hI => ?_)
  refine lv_iload hx hb (dc tbL_law_21_k 22 rfl) (lv_at hl 1 rfl) ?_
  refine lv_icmp_eq (tgt := 1633) hx hb (dc tbL_law_21_k 23 rfl) rfl (fun c10 => ?_) (fun c10 => ?_)
  · have hf := ite_t c10 hf
    refine lv_iload hx hb (dc tbL_law_21_k 26 rfl) (lv_at hl 1 rfl) ?_
    refine lv_if_ne (tgt := 1650) hx hb (dc tbL_law_21_k 27 rfl) rfl (fun c11 => ?_) (fun c11 => ?_)
    · have hf := ite_f c11 hf
      refine lv_goto (tgt := 2624) hx hb (dc tbL_law_21_k 37 rfl) rfl ?_
      cases hf
      refine W.widen (k := cells + 64) (n := slots + 512) (by omega) (by omega) ?_
      exact hk _ _ _ hI hJ (lv_sub hl [2, 3, 4, 5, 6, 7] rfl)
    · have hf := ite_t c11 hf
      refine lv_aload_n hx hb (dc tbL_law_21_k 28 rfl) rfl (lv_at hl 5 rfl) ?_
      refine lv_iconst (v := 0) hx hb (dc tbL_law_21_k 29 rfl) ic_0 ?_
      obtain ⟨h12, hf⟩ := chk_s hf
      refine g_lald hx hb hK hI hk1 (okb_in h12) (dc tbL_law_21_k 30 rfl) ?_
      refine lv_iload hx hb (dc tbL_law_21_k 31 rfl) (lv_at hl 0 rfl) ?_
      refine lv_i2l hx hb (dc tbL_law_21_k 32 rfl) rfl ?_
      refine W.lcmp hx hb (dc tbL_law_21_k 33 rfl) ?_
      refine lv_if_eq (tgt := 1650) hx hb (dc tbL_law_21_k 34 rfl) rfl (fun c13 => ?_) (fun c13 => ?_)
      · have hf := ite_t c13 hf
        refine lv_goto (tgt := 2624) hx hb (dc tbL_law_21_k 37 rfl) rfl ?_
        cases hf
        refine W.widen (k := cells + 64) (n := slots + 512) (by omega) (by omega) ?_
        exact hk _ _ _ hI hJ (lv_sub hl [2, 3, 4, 5, 6, 7] rfl)
      · have hf := ite_f c13 hf
        refine lv_iconst (v := 0) hx hb (dc tbL_law_21_k 35 rfl) ic_0 ?_
        cases hf
  · have hf := ite_f c10 hf
    refine lv_iconst (v := 0) hx hb (dc tbL_law_21_k 24 rfl) ic_0 ?_
    cases hf
def mlc_32 (a1 a2 a3 a4 a5 : Int32) (M N : Mem) : Option (Mem × Mem) := cal (mX6_possible 0 M) (fun M3 r2 => cal (mX7_possible 135 N) (fun N6 r5 => ite2 (r2 = r5) (some (M3, N6)) (none)))
set_option maxHeartbeats 4000000 in
set_option maxRecDepth 100000 in
theorem lc_32 (C : Lx p l s m args meth c b L xs G kd kd' ad) (hc : cells + 64 ≤ 600002 ∧ slots + 512 ≤ 7302232) {x5 a0 a1 a2 a3 a4 a5 : Int32} (hs : Sc xs L x5 a0 a1 a2 a3 a4 a5) {M N M' N' : Mem} (hf : mlc_32 a1 a2 a3 a4 a5 M N = some (M', N')) (hk : AtW p l e s m args below meth c G kd kd' ad b x5 M' N' Q (cells + 64) (slots + 512) 2624) : AtW p l e s m args below meth c G kd kd' ad b x5 M N Q cells slots 1653 := by
  intro H locs ls hI hJ hl
  obtain ⟨hx, hb, hml, hown, hts, hK, hap, hap2, hsx, hsx2, hnc, hst, hA, hd1, hd2, hX, hbl, hbA, hk0, hS, hk1, hk3, hk2⟩ := id C
  unfold mlc_32 at hf
  refine lv_aload_n hx hb (dc tbL_law_21_k 38 rfl) rfl (lv_at hl 1 rfl) ?_
  obtain ⟨M3, r2, q1, hf⟩ := cal_s hf
  refine l_calli (g_runV hx hb hml hown hts hK hap hsx hI (tX6_possible l hk0 q1 H.size) cv_X6_possible q_t3_16 rfl rfl ⟨Nat.le_of_ble_eq_true rfl, Nat.le_of_ble_eq_true rfl⟩ hk0.1 (by simp) rfl rfl rfl hl.1 rfl (Nat.le_of_ble_eq_true rfl) (dc tbL_law_21_k 39 rfl) ⟨by have := hc.1; show _ ≤ 600002; omega, by have := hc.2; show _ ≤ 7302232; omega⟩) hI hJ hA hd1 (fun H locs hI hJ => ?_)
  refine lv_aload_n hx hb (dc tbL_law_22_k 0 rfl) rfl (lv_at hl 2 rfl) ?_
  obtain ⟨N6, r5, q4, hf⟩ := cal_s hf
  refine l_calli (g_runV hx hb hml hown hts hK hap2 hsx2 hJ (tX7_possible l hk2 q4 H.size) cv_X7_possible q_t9_69 rfl rfl ⟨Nat.le_of_ble_eq_true rfl, Nat.le_of_ble_eq_true rfl⟩ hk2.1 (by simp) rfl rfl rfl hl.1 rfl (Nat.le_of_ble_eq_true rfl) (dc tbL_law_22_k 1 rfl) ⟨by have := hc.1; show _ ≤ 600002; omega, by have := hc.2; show _ ≤ 7302232; omega⟩) hJ hI hA.symm hd2 (fun H locs hJ hI => ?_)
  refine lv_icmp_eq (tgt := 2624) hx hb (dc tbL_law_22_k 2 rfl) rfl (fun c7 => ?_) (fun c7 => ?_)
  · have hf := ite_t c7 hf
    cases hf
    refine W.widen (k := cells + 64) (n := slots + 512) (by omega) (by omega) ?_
    exact hk _ _ _ hI hJ (lv_sub hl [0, 1, 2, 3, 4, 5] rfl)
  · have hf := ite_f c7 hf
    refine lv_iconst (v := 0) hx hb (dc tbL_law_22_k 3 rfl) ic_0 ?_
    cases hf
def mlc_33 (a1 a2 a3 a4 a5 : Int32) (M N : Mem) : Option (Mem × Mem) := cal (mX6_stuck 0 M) (fun M3 r2 => cal (mX7_stuck 135 N) (fun N6 r5 => ite2 (r2 = r5) (some (M3, N6)) (none)))
set_option maxHeartbeats 4000000 in
set_option maxRecDepth 100000 in
theorem lc_33 (C : Lx p l s m args meth c b L xs G kd kd' ad) (hc : cells + 64 ≤ 600002 ∧ slots + 512 ≤ 7302232) {x5 a0 a1 a2 a3 a4 a5 : Int32} (hs : Sc xs L x5 a0 a1 a2 a3 a4 a5) {M N M' N' : Mem} (hf : mlc_33 a1 a2 a3 a4 a5 M N = some (M', N')) (hk : AtW p l e s m args below meth c G kd kd' ad b x5 M' N' Q (cells + 64) (slots + 512) 2624) : AtW p l e s m args below meth c G kd kd' ad b x5 M N Q cells slots 1666 := by
  intro H locs ls hI hJ hl
  obtain ⟨hx, hb, hml, hown, hts, hK, hap, hap2, hsx, hsx2, hnc, hst, hA, hd1, hd2, hX, hbl, hbA, hk0, hS, hk1, hk3, hk2⟩ := id C
  unfold mlc_33 at hf
  refine lv_aload_n hx hb (dc tbL_law_22_k 5 rfl) rfl (lv_at hl 1 rfl) ?_
  obtain ⟨M3, r2, q1, hf⟩ := cal_s hf
  refine l_calli (g_runV hx hb hml hown hts hK hap hsx hI (tX6_stuck l hk0 q1 H.size) cv_X6_stuck q_t3_51 rfl rfl ⟨Nat.le_of_ble_eq_true rfl, Nat.le_of_ble_eq_true rfl⟩ hk0.1 (by simp) rfl rfl rfl hl.1 rfl (Nat.le_of_ble_eq_true rfl) (dc tbL_law_22_k 6 rfl) ⟨by have := hc.1; show _ ≤ 600002; omega, by have := hc.2; show _ ≤ 7302232; omega⟩) hI hJ hA hd1 (fun H locs hI hJ => ?_)
  refine lv_aload_n hx hb (dc tbL_law_22_k 7 rfl) rfl (lv_at hl 2 rfl) ?_
  obtain ⟨N6, r5, q4, hf⟩ := cal_s hf
  refine l_calli (g_runV hx hb hml hown hts hK hap2 hsx2 hJ (tX7_stuck l hk2 q4 H.size) cv_X7_stuck q_t9_73 rfl rfl ⟨Nat.le_of_ble_eq_true rfl, Nat.le_of_ble_eq_true rfl⟩ hk2.1 (by simp) rfl rfl rfl hl.1 rfl (Nat.le_of_ble_eq_true rfl) (dc tbL_law_22_k 8 rfl) ⟨by have := hc.1; show _ ≤ 600002; omega, by have := hc.2; show _ ≤ 7302232; omega⟩) hJ hI hA.symm hd2 (fun H locs hJ hI => ?_)
  refine lv_icmp_eq (tgt := 2624) hx hb (dc tbL_law_22_k 9 rfl) rfl (fun c7 => ?_) (fun c7 => ?_)
  · have hf := ite_t c7 hf
    cases hf
    refine W.widen (k := cells + 64) (n := slots + 512) (by omega) (by omega) ?_
    exact hk _ _ _ hI hJ (lv_sub hl [0, 1, 2, 3, 4, 5] rfl)
  · have hf := ite_f c7 hf
    refine lv_iconst (v := 0) hx hb (dc tbL_law_22_k 10 rfl) ic_0 ?_
    cases hf
def mlc_34 (a1 a2 a3 a4 a5 : Int32) (M N : Mem) : Option (Mem × Mem) := calh (mL_costOf 0 152 a1 a2 M) (fun M3 r2 => cal (mX7_costOf 135 a1 a2 N) (fun N6 r5 => cap (mX7_thrown 135 N6) (fun r8 => ite2 (r8 = r2) (ite2 (r2 = 0) (chk (okb (0 : Int32) 1) (ite2 ((lg_cmp (rl M3 152 ((0 : Int32)).toNatClampNeg) (r5).toInt64) = 0) (some (M3, N6)) (none))) (some (M3, N6))) (none))))
set_option maxHeartbeats 4000000 in
set_option maxRecDepth 100000 in
theorem lc_34 (C : Lx p l s m args meth c b L xs G kd kd' ad) (hc : cells + 64 ≤ 600002 ∧ slots + 512 ≤ 7302232) {x5 a0 a1 a2 a3 a4 a5 : Int32} (hs : Sc xs L x5 a0 a1 a2 a3 a4 a5) {M N M' N' : Mem} (hf : mlc_34 a1 a2 a3 a4 a5 M N = some (M', N')) (hk : AtW p l e s m args below meth c G kd kd' ad b x5 M' N' Q (cells + 64) (slots + 512) 2624) : AtW p l e s m args below meth c G kd kd' ad b x5 M N Q cells slots 1679 := by
  intro H locs ls hI hJ hl
  obtain ⟨hx, hb, hml, hown, hts, hK, hap, hap2, hsx, hsx2, hnc, hst, hA, hd1, hd2, hX, hbl, hbA, hk0, hS, hk1, hk3, hk2⟩ := id C
  unfold mlc_34 at hf
  refine lv_aload_n hx hb (dc tbL_law_22_k 12 rfl) rfl (lv_at hl 1 rfl) ?_
  refine lv_aload_n hx hb (dc tbL_law_22_k 13 rfl) rfl (lv_at hl 0 rfl) ?_
  refine lv_iload hx hb (dc tbL_law_22_k 14 rfl) (lv_at hl 5 rfl) ?_
  refine lv_iconst (v := 1) hx hb (dc tbL_law_22_k 15 rfl) ic_1 ?_
  refine lv_iadd hx hb (dc tbL_law_22_k 16 rfl) ?_
  refine l_sld hx hb hX hbl hbA hI hs.2.1.1 hs.2.1.2 (dc tbL_law_22_k 17 rfl) ?_
  refine lv_aload_n hx hb (dc tbL_law_22_k 18 rfl) rfl (lv_at hl 0 rfl) ?_
  refine lv_iload hx hb (dc tbL_law_22_k 19 rfl) (lv_at hl 5 rfl) ?_
  refine lv_iconst (v := 2) hx hb (dc tbL_law_22_k 20 rfl) ic_2 ?_
  refine lv_iadd hx hb (dc tbL_law_22_k 21 rfl) ?_
  refine l_sld hx hb hX hbl hbA hI hs.2.2.1.1 hs.2.2.1.2 (dc tbL_law_22_k 22 rfl) ?_
  refine lv_aload_n hx hb (dc tbL_law_22_k 23 rfl) rfl (lv_at hl 3 rfl) ?_
  obtain ⟨M3, r2, q1, hf⟩ := calh_s hf
  refine l_callH (g_runH hx hb hml hown hts hK hap hsx hnc hI (tL_costOf l hst hk0 hk1 q1 H.size) ch_L_costOf q_t6_153 rfl rfl ⟨Nat.le_of_ble_eq_true rfl, Nat.le_of_ble_eq_true rfl⟩ rfl hl.1 rfl (Nat.le_of_ble_eq_true rfl) (dc tbL_law_22_k 24 rfl) ⟨by have := hc.1; show _ ≤ 600002; omega, by have := hc.2; show _ ≤ 7302232; omega⟩) hI hJ hA hd1 (fun H locs hI hJ => ?_)
  refine lv_istore (lv' := [(6, .int r2), (0, .ref b), (1, .ref (ad 0)), (2, .ref (ad 135)), (3, .ref (ad 152)), (4, .ref (ad 153)), (5, .int x5)]) hx hb (dc tbL_law_22_k 25 rfl) hl (by decide) rfl (fun ls hl => ?_)
  refine lv_aload_n hx hb (dc tbL_law_22_k 26 rfl) rfl (lv_at hl 3 rfl) ?_
  refine lv_aload_n hx hb (dc tbL_law_22_k 27 rfl) rfl (lv_at hl 1 rfl) ?_
  refine lv_iload hx hb (dc tbL_law_22_k 28 rfl) (lv_at hl 6 rfl) ?_
  refine lv_iconst (v := 1) hx hb (dc tbL_law_22_k 29 rfl) ic_1 ?_
  refine lv_iadd hx hb (dc tbL_law_22_k 30 rfl) ?_
  refine l_sld hx hb hX hbl hbA hI hs.2.1.1 hs.2.1.2 (dc tbL_law_22_k 31 rfl) ?_
  refine lv_aload_n hx hb (dc tbL_law_22_k 32 rfl) rfl (lv_at hl 1 rfl) ?_
  refine lv_iload hx hb (dc tbL_law_22_k 33 rfl) (lv_at hl 6 rfl) ?_
  refine lv_iconst (v := 2) hx hb (dc tbL_law_22_k 34 rfl) ic_2 ?_
  refine lv_iadd hx hb (dc tbL_law_22_k 35 rfl) ?_
  refine l_sld hx hb hX hbl hbA hI hs.2.2.1.1 hs.2.2.1.2 (dc tbL_law_22_k 36 rfl) ?_
  obtain ⟨N6, r5, q4, hf⟩ := cal_s hf
  refine l_calli (g_runV hx hb hml hown hts hK hap2 hsx2 hJ (tX7_costOf l hk2 q4 H.size) cv_X7_costOf q_t9_77 rfl rfl ⟨Nat.le_of_ble_eq_true rfl, Nat.le_of_ble_eq_true rfl⟩ hk2.1 (by simp) rfl rfl rfl hl.1 rfl (Nat.le_of_ble_eq_true rfl) (dc tbL_law_22_k 37 rfl) ⟨by have := hc.1; show _ ≤ 600002; omega, by have := hc.2; show _ ≤ 7302232; omega⟩) hJ hI hA.symm hd2 (fun H locs hJ hI => ?_)
  refine lv_istore (lv' := [(7, .int r5), (6, .int r2), (0, .ref b), (1, .ref (ad 0)), (2, .ref (ad 135)), (3, .ref (ad 152)), (4, .ref (ad 153)), (5, .int x5)]) hx hb (dc tbL_law_22_k 38 rfl) hl (by decide) rfl (fun ls hl => ?_)
  refine lv_aload_n hx hb (dc tbL_law_22_k 39 rfl) rfl (lv_at hl 4 rfl) ?_
  obtain ⟨r8, q7, hf⟩ := cap_s hf
  refine l_calli (g_runV hx hb hml hown hts hK hap2 hsx2 hJ (tX7_thrown l hk2 q7 H.size) cv_X7_thrown q_t7_170 rfl rfl ⟨Nat.le_of_ble_eq_true rfl, Nat.le_of_ble_eq_true rfl⟩ hk2.1 (by simp) rfl rfl rfl hl.1 rfl (Nat.le_of_ble_eq_true rfl) (dc tbL_law_23_k 0 rfl) ⟨by have := hc.1; show _ ≤ 600002; omega, by have := hc.2; show _ ≤ 7302232; omega⟩) hJ hI hA.symm hd2 (fun H locs hJ hI => ?_)
  refine lv_iload hx hb (dc tbL_law_23_k 1 rfl) (lv_at hl 1 rfl) ?_
  refine lv_icmp_eq (tgt := 1727) hx hb (dc tbL_law_23_k 2 rfl) rfl (fun c10 => ?_) (fun c10 => ?_)
  · have hf := ite_t c10 hf
    refine lv_iload hx hb (dc tbL_law_23_k 5 rfl) (lv_at hl 1 rfl) ?_
    refine lv_if_ne (tgt := 1744) hx hb (dc tbL_law_23_k 6 rfl) rfl (fun c11 => ?_) (fun c11 => ?_)
    · have hf := ite_f c11 hf
      refine lv_goto (tgt := 2624) hx hb (dc tbL_law_23_k 16 rfl) rfl ?_
      cases hf
      refine W.widen (k := cells + 64) (n := slots + 512) (by omega) (by omega) ?_
      exact hk _ _ _ hI hJ (lv_sub hl [2, 3, 4, 5, 6, 7] rfl)
    · have hf := ite_t c11 hf
      refine lv_aload_n hx hb (dc tbL_law_23_k 7 rfl) rfl (lv_at hl 5 rfl) ?_
      refine lv_iconst (v := 0) hx hb (dc tbL_law_23_k 8 rfl) ic_0 ?_
      obtain ⟨h12, hf⟩ := chk_s hf
      refine g_lald hx hb hK hI hk1 (okb_in h12) (dc tbL_law_23_k 9 rfl) ?_
      refine lv_iload hx hb (dc tbL_law_23_k 10 rfl) (lv_at hl 0 rfl) ?_
      refine lv_i2l hx hb (dc tbL_law_23_k 11 rfl) rfl ?_
      refine W.lcmp hx hb (dc tbL_law_23_k 12 rfl) ?_
      refine lv_if_eq (tgt := 1744) hx hb (dc tbL_law_23_k 13 rfl) rfl (fun c13 => ?_) (fun c13 => ?_)
      · have hf := ite_t c13 hf
        refine lv_goto (tgt := 2624) hx hb (dc tbL_law_23_k 16 rfl) rfl ?_
        cases hf
        refine W.widen (k := cells + 64) (n := slots + 512) (by omega) (by omega) ?_
        exact hk _ _ _ hI hJ (lv_sub hl [2, 3, 4, 5, 6, 7] rfl)
      · have hf := ite_f c13 hf
        refine lv_iconst (v := 0) hx hb (dc tbL_law_23_k 14 rfl) ic_0 ?_
        cases hf
  · have hf := ite_f c10 hf
    refine lv_iconst (v := 0) hx hb (dc tbL_law_23_k 3 rfl) ic_0 ?_
    cases hf
def mlc_35 (a1 a2 a3 a4 a5 : Int32) (M N : Mem) : Option (Mem × Mem) := cal (mX6_orders 0 M) (fun M3 r2 => cal (mX7_orders 135 N) (fun N6 r5 => ite2 ((lg_cmp r2 r5) = 0) (some (M3, N6)) (none)))
set_option maxHeartbeats 4000000 in
set_option maxRecDepth 100000 in
theorem lc_35 (C : Lx p l s m args meth c b L xs G kd kd' ad) (hc : cells + 64 ≤ 600002 ∧ slots + 512 ≤ 7302232) {x5 a0 a1 a2 a3 a4 a5 : Int32} (hs : Sc xs L x5 a0 a1 a2 a3 a4 a5) {M N M' N' : Mem} (hf : mlc_35 a1 a2 a3 a4 a5 M N = some (M', N')) (hk : AtW p l e s m args below meth c G kd kd' ad b x5 M' N' Q (cells + 64) (slots + 512) 2624) : AtW p l e s m args below meth c G kd kd' ad b x5 M N Q cells slots 1747 := by
  intro H locs ls hI hJ hl
  obtain ⟨hx, hb, hml, hown, hts, hK, hap, hap2, hsx, hsx2, hnc, hst, hA, hd1, hd2, hX, hbl, hbA, hk0, hS, hk1, hk3, hk2⟩ := id C
  unfold mlc_35 at hf
  refine lv_aload_n hx hb (dc tbL_law_23_k 17 rfl) rfl (lv_at hl 1 rfl) ?_
  obtain ⟨M3, r2, q1, hf⟩ := cal_s hf
  refine l_calll (g_runV hx hb hml hown hts hK hap hsx hI (tX6_orders l hk0 q1 H.size) cv_X6_orders q_t3_55 rfl rfl ⟨Nat.le_of_ble_eq_true rfl, Nat.le_of_ble_eq_true rfl⟩ hk0.1 (by simp) rfl rfl rfl hl.1 rfl (Nat.le_of_ble_eq_true rfl) (dc tbL_law_23_k 18 rfl) ⟨by have := hc.1; show _ ≤ 600002; omega, by have := hc.2; show _ ≤ 7302232; omega⟩) hI hJ hA hd1 (fun H locs hI hJ => ?_)
  refine lv_aload_n hx hb (dc tbL_law_23_k 19 rfl) rfl (lv_at hl 2 rfl) ?_
  obtain ⟨N6, r5, q4, hf⟩ := cal_s hf
  refine l_calll (g_runV hx hb hml hown hts hK hap2 hsx2 hJ (tX7_orders l hk2 q4 H.size) cv_X7_orders q_t9_89 rfl rfl ⟨Nat.le_of_ble_eq_true rfl, Nat.le_of_ble_eq_true rfl⟩ hk2.1 (by simp) rfl rfl rfl hl.1 rfl (Nat.le_of_ble_eq_true rfl) (dc tbL_law_23_k 20 rfl) ⟨by have := hc.1; show _ ≤ 600002; omega, by have := hc.2; show _ ≤ 7302232; omega⟩) hJ hI hA.symm hd2 (fun H locs hJ hI => ?_)
  refine W.lcmp hx hb (dc tbL_law_23_k 21 rfl) ?_
  refine lv_if_eq (tgt := 2624) hx hb (dc tbL_law_23_k 22 rfl) rfl (fun c7 => ?_) (fun c7 => ?_)
  · have hf := ite_t c7 hf
    cases hf
    refine W.widen (k := cells + 64) (n := slots + 512) (by omega) (by omega) ?_
    exact hk _ _ _ hI hJ (lv_sub hl [0, 1, 2, 3, 4, 5] rfl)
  · have hf := ite_f c7 hf
    refine lv_iconst (v := 0) hx hb (dc tbL_law_23_k 23 rfl) ic_0 ?_
    cases hf
def mlc_36 (a1 a2 a3 a4 a5 : Int32) (M N : Mem) : Option (Mem × Mem) := cal (mX6_leastCost 0 M) (fun M3 r2 => cal (mX7_leastCost 135 N) (fun N6 r5 => ite2 (r2 = r5) (some (M3, N6)) (none)))
set_option maxHeartbeats 4000000 in
set_option maxRecDepth 100000 in
theorem lc_36 (C : Lx p l s m args meth c b L xs G kd kd' ad) (hc : cells + 64 ≤ 600002 ∧ slots + 512 ≤ 7302232) {x5 a0 a1 a2 a3 a4 a5 : Int32} (hs : Sc xs L x5 a0 a1 a2 a3 a4 a5) {M N M' N' : Mem} (hf : mlc_36 a1 a2 a3 a4 a5 M N = some (M', N')) (hk : AtW p l e s m args below meth c G kd kd' ad b x5 M' N' Q (cells + 64) (slots + 512) 2624) : AtW p l e s m args below meth c G kd kd' ad b x5 M N Q cells slots 1761 := by
  intro H locs ls hI hJ hl
  obtain ⟨hx, hb, hml, hown, hts, hK, hap, hap2, hsx, hsx2, hnc, hst, hA, hd1, hd2, hX, hbl, hbA, hk0, hS, hk1, hk3, hk2⟩ := id C
  unfold mlc_36 at hf
  refine lv_aload_n hx hb (dc tbL_law_23_k 25 rfl) rfl (lv_at hl 1 rfl) ?_
  obtain ⟨M3, r2, q1, hf⟩ := cal_s hf
  refine l_calli (g_runV hx hb hml hown hts hK hap hsx hI (tX6_leastCost l hk0 q1 H.size) cv_X6_leastCost q_t3_143 rfl rfl ⟨Nat.le_of_ble_eq_true rfl, Nat.le_of_ble_eq_true rfl⟩ hk0.1 (by simp) rfl rfl rfl hl.1 rfl (Nat.le_of_ble_eq_true rfl) (dc tbL_law_23_k 26 rfl) ⟨by have := hc.1; show _ ≤ 600002; omega, by have := hc.2; show _ ≤ 7302232; omega⟩) hI hJ hA hd1 (fun H locs hI hJ => ?_)
  refine lv_aload_n hx hb (dc tbL_law_23_k 27 rfl) rfl (lv_at hl 2 rfl) ?_
  obtain ⟨N6, r5, q4, hf⟩ := cal_s hf
  refine l_calli (g_runV hx hb hml hown hts hK hap2 hsx2 hJ (tX7_leastCost l hk2 q4 H.size) cv_X7_leastCost q_t9_105 rfl rfl ⟨Nat.le_of_ble_eq_true rfl, Nat.le_of_ble_eq_true rfl⟩ hk2.1 (by simp) rfl rfl rfl hl.1 rfl (Nat.le_of_ble_eq_true rfl) (dc tbL_law_23_k 28 rfl) ⟨by have := hc.1; show _ ≤ 600002; omega, by have := hc.2; show _ ≤ 7302232; omega⟩) hJ hI hA.symm hd2 (fun H locs hJ hI => ?_)
  refine lv_icmp_eq (tgt := 2624) hx hb (dc tbL_law_23_k 29 rfl) rfl (fun c7 => ?_) (fun c7 => ?_)
  · have hf := ite_t c7 hf
    cases hf
    refine W.widen (k := cells + 64) (n := slots + 512) (by omega) (by omega) ?_
    exact hk _ _ _ hI hJ (lv_sub hl [0, 1, 2, 3, 4, 5] rfl)
  · have hf := ite_f c7 hf
    refine lv_iconst (v := 0) hx hb (dc tbL_law_23_k 30 rfl) ic_0 ?_
    cases hf
def mlc_37 (a1 a2 a3 a4 a5 : Int32) (M N : Mem) : Option (Mem × Mem) := cal (mX6_plannedSteps 0 M) (fun M3 r2 => cal (mX7_plannedSteps 135 N) (fun N6 r5 => ite2 (r2 = r5) (some (M3, N6)) (none)))
set_option maxHeartbeats 4000000 in
set_option maxRecDepth 100000 in
theorem lc_37 (C : Lx p l s m args meth c b L xs G kd kd' ad) (hc : cells + 64 ≤ 600002 ∧ slots + 512 ≤ 7302232) {x5 a0 a1 a2 a3 a4 a5 : Int32} (hs : Sc xs L x5 a0 a1 a2 a3 a4 a5) {M N M' N' : Mem} (hf : mlc_37 a1 a2 a3 a4 a5 M N = some (M', N')) (hk : AtW p l e s m args below meth c G kd kd' ad b x5 M' N' Q (cells + 64) (slots + 512) 2624) : AtW p l e s m args below meth c G kd kd' ad b x5 M N Q cells slots 1774 := by
  intro H locs ls hI hJ hl
  obtain ⟨hx, hb, hml, hown, hts, hK, hap, hap2, hsx, hsx2, hnc, hst, hA, hd1, hd2, hX, hbl, hbA, hk0, hS, hk1, hk3, hk2⟩ := id C
  unfold mlc_37 at hf
  refine lv_aload_n hx hb (dc tbL_law_23_k 32 rfl) rfl (lv_at hl 1 rfl) ?_
  obtain ⟨M3, r2, q1, hf⟩ := cal_s hf
  refine l_calli (g_runV hx hb hml hown hts hK hap hsx hI (tX6_plannedSteps l hk0 q1 H.size) cv_X6_plannedSteps q_t3_147 rfl rfl ⟨Nat.le_of_ble_eq_true rfl, Nat.le_of_ble_eq_true rfl⟩ hk0.1 (by simp) rfl rfl rfl hl.1 rfl (Nat.le_of_ble_eq_true rfl) (dc tbL_law_23_k 33 rfl) ⟨by have := hc.1; show _ ≤ 600002; omega, by have := hc.2; show _ ≤ 7302232; omega⟩) hI hJ hA hd1 (fun H locs hI hJ => ?_)
  refine lv_aload_n hx hb (dc tbL_law_23_k 34 rfl) rfl (lv_at hl 2 rfl) ?_
  obtain ⟨N6, r5, q4, hf⟩ := cal_s hf
  refine l_calli (g_runV hx hb hml hown hts hK hap2 hsx2 hJ (tX7_plannedSteps l hk2 q4 H.size) cv_X7_plannedSteps q_t9_135 rfl rfl ⟨Nat.le_of_ble_eq_true rfl, Nat.le_of_ble_eq_true rfl⟩ hk2.1 (by simp) rfl rfl rfl hl.1 rfl (Nat.le_of_ble_eq_true rfl) (dc tbL_law_23_k 35 rfl) ⟨by have := hc.1; show _ ≤ 600002; omega, by have := hc.2; show _ ≤ 7302232; omega⟩) hJ hI hA.symm hd2 (fun H locs hJ hI => ?_)
  refine lv_icmp_eq (tgt := 2624) hx hb (dc tbL_law_23_k 36 rfl) rfl (fun c7 => ?_) (fun c7 => ?_)
  · have hf := ite_t c7 hf
    cases hf
    refine W.widen (k := cells + 64) (n := slots + 512) (by omega) (by omega) ?_
    exact hk _ _ _ hI hJ (lv_sub hl [0, 1, 2, 3, 4, 5] rfl)
  · have hf := ite_f c7 hf
    refine lv_iconst (v := 0) hx hb (dc tbL_law_23_k 37 rfl) ic_0 ?_
    cases hf
def mlc_38 (a1 a2 a3 a4 a5 : Int32) (M N : Mem) : Option (Mem × Mem) := calh (mL_planned 0 152 a1 M) (fun M3 r2 => cal (mX7_planned 135 a1 N) (fun N6 r5 => cap (mX7_thrown 135 N6) (fun r8 => ite2 (r8 = r2) (ite2 (r2 = 0) (chk (okb (0 : Int32) 1) (ite2 ((lg_cmp (rl M3 152 ((0 : Int32)).toNatClampNeg) (r5).toInt64) = 0) (some (M3, N6)) (none))) (some (M3, N6))) (none))))
set_option maxHeartbeats 4000000 in
set_option maxRecDepth 100000 in
theorem lc_38 (C : Lx p l s m args meth c b L xs G kd kd' ad) (hc : cells + 64 ≤ 600002 ∧ slots + 512 ≤ 7302232) {x5 a0 a1 a2 a3 a4 a5 : Int32} (hs : Sc xs L x5 a0 a1 a2 a3 a4 a5) {M N M' N' : Mem} (hf : mlc_38 a1 a2 a3 a4 a5 M N = some (M', N')) (hk : AtW p l e s m args below meth c G kd kd' ad b x5 M' N' Q (cells + 64) (slots + 512) 2624) : AtW p l e s m args below meth c G kd kd' ad b x5 M N Q cells slots 1787 := by
  intro H locs ls hI hJ hl
  obtain ⟨hx, hb, hml, hown, hts, hK, hap, hap2, hsx, hsx2, hnc, hst, hA, hd1, hd2, hX, hbl, hbA, hk0, hS, hk1, hk3, hk2⟩ := id C
  unfold mlc_38 at hf
  refine lv_aload_n hx hb (dc tbL_law_23_k 39 rfl) rfl (lv_at hl 1 rfl) ?_
  refine lv_aload_n hx hb (dc tbL_law_24_k 0 rfl) rfl (lv_at hl 0 rfl) ?_
  refine lv_iload hx hb (dc tbL_law_24_k 1 rfl) (lv_at hl 5 rfl) ?_
  refine lv_iconst (v := 1) hx hb (dc tbL_law_24_k 2 rfl) ic_1 ?_
  refine lv_iadd hx hb (dc tbL_law_24_k 3 rfl) ?_
  refine l_sld hx hb hX hbl hbA hI hs.2.1.1 hs.2.1.2 (dc tbL_law_24_k 4 rfl) ?_
  refine lv_aload_n hx hb (dc tbL_law_24_k 5 rfl) rfl (lv_at hl 3 rfl) ?_
  obtain ⟨M3, r2, q1, hf⟩ := calh_s hf
  refine l_callH (g_runH hx hb hml hown hts hK hap hsx hnc hI (tL_planned l hst hk0 hk1 q1 H.size) ch_L_planned q_t6_167 rfl rfl ⟨Nat.le_of_ble_eq_true rfl, Nat.le_of_ble_eq_true rfl⟩ rfl hl.1 rfl (Nat.le_of_ble_eq_true rfl) (dc tbL_law_24_k 6 rfl) ⟨by have := hc.1; show _ ≤ 600002; omega, by have := hc.2; show _ ≤ 7302232; omega⟩) hI hJ hA hd1 (fun H locs hI hJ => ?_)
  refine lv_istore (lv' := [(6, .int r2), (0, .ref b), (1, .ref (ad 0)), (2, .ref (ad 135)), (3, .ref (ad 152)), (4, .ref (ad 153)), (5, .int x5)]) hx hb (dc tbL_law_24_k 7 rfl) hl (by decide) rfl (fun ls hl => ?_)
  refine lv_aload_n hx hb (dc tbL_law_24_k 8 rfl) rfl (lv_at hl 3 rfl) ?_
  refine lv_aload_n hx hb (dc tbL_law_24_k 9 rfl) rfl (lv_at hl 1 rfl) ?_
  refine lv_iload hx hb (dc tbL_law_24_k 10 rfl) (lv_at hl 6 rfl) ?_
  refine lv_iconst (v := 1) hx hb (dc tbL_law_24_k 11 rfl) ic_1 ?_
  refine lv_iadd hx hb (dc tbL_law_24_k 12 rfl) ?_
  refine l_sld hx hb hX hbl hbA hI hs.2.1.1 hs.2.1.2 (dc tbL_law_24_k 13 rfl) ?_
  obtain ⟨N6, r5, q4, hf⟩ := cal_s hf
  refine l_calli (g_runV hx hb hml hown hts hK hap2 hsx2 hJ (tX7_planned l hk2 q4 H.size) cv_X7_planned q_t9_143 rfl rfl ⟨Nat.le_of_ble_eq_true rfl, Nat.le_of_ble_eq_true rfl⟩ hk2.1 (by simp) rfl rfl rfl hl.1 rfl (Nat.le_of_ble_eq_true rfl) (dc tbL_law_24_k 14 rfl) ⟨by have := hc.1; show _ ≤ 600002; omega, by have := hc.2; show _ ≤ 7302232; omega⟩) hJ hI hA.symm hd2 (fun H locs hJ hI => ?_)
  refine lv_istore (lv' := [(7, .int r5), (6, .int r2), (0, .ref b), (1, .ref (ad 0)), (2, .ref (ad 135)), (3, .ref (ad 152)), (4, .ref (ad 153)), (5, .int x5)]) hx hb (dc tbL_law_24_k 15 rfl) hl (by decide) rfl (fun ls hl => ?_)
  refine lv_aload_n hx hb (dc tbL_law_24_k 16 rfl) rfl (lv_at hl 4 rfl) ?_
  obtain ⟨r8, q7, hf⟩ := cap_s hf
  refine l_calli (g_runV hx hb hml hown hts hK hap2 hsx2 hJ (tX7_thrown l hk2 q7 H.size) cv_X7_thrown q_t7_170 rfl rfl ⟨Nat.le_of_ble_eq_true rfl, Nat.le_of_ble_eq_true rfl⟩ hk2.1 (by simp) rfl rfl rfl hl.1 rfl (Nat.le_of_ble_eq_true rfl) (dc tbL_law_24_k 17 rfl) ⟨by have := hc.1; show _ ≤ 600002; omega, by have := hc.2; show _ ≤ 7302232; omega⟩) hJ hI hA.symm hd2 (fun H locs hJ hI => ?_)
  refine lv_iload hx hb (dc tbL_law_24_k 18 rfl) (lv_at hl 1 rfl) ?_
  refine lv_icmp_eq (tgt := 1823) hx hb (dc tbL_law_24_k 19 rfl) rfl (fun c10 => ?_) (fun c10 => ?_)
  · have hf := ite_t c10 hf
    refine lv_iload hx hb (dc tbL_law_24_k 22 rfl) (lv_at hl 1 rfl) ?_
    refine lv_if_ne (tgt := 1840) hx hb (dc tbL_law_24_k 23 rfl) rfl (fun c11 => ?_) (fun c11 => ?_)
    · have hf := ite_f c11 hf
      refine lv_goto (tgt := 2624) hx hb (dc tbL_law_24_k 33 rfl) rfl ?_
      cases hf
      refine W.widen (k := cells + 64) (n := slots + 512) (by omega) (by omega) ?_
      exact hk _ _ _ hI hJ (lv_sub hl [2, 3, 4, 5, 6, 7] rfl)
    · have hf := ite_t c11 hf
      refine lv_aload_n hx hb (dc tbL_law_24_k 24 rfl) rfl (lv_at hl 5 rfl) ?_
      refine lv_iconst (v := 0) hx hb (dc tbL_law_24_k 25 rfl) ic_0 ?_
      obtain ⟨h12, hf⟩ := chk_s hf
      refine g_lald hx hb hK hI hk1 (okb_in h12) (dc tbL_law_24_k 26 rfl) ?_
      refine lv_iload hx hb (dc tbL_law_24_k 27 rfl) (lv_at hl 0 rfl) ?_
      refine lv_i2l hx hb (dc tbL_law_24_k 28 rfl) rfl ?_
      refine W.lcmp hx hb (dc tbL_law_24_k 29 rfl) ?_
      refine lv_if_eq (tgt := 1840) hx hb (dc tbL_law_24_k 30 rfl) rfl (fun c13 => ?_) (fun c13 => ?_)
      · have hf := ite_t c13 hf
        refine lv_goto (tgt := 2624) hx hb (dc tbL_law_24_k 33 rfl) rfl ?_
        cases hf
        refine W.widen (k := cells + 64) (n := slots + 512) (by omega) (by omega) ?_
        exact hk _ _ _ hI hJ (lv_sub hl [2, 3, 4, 5, 6, 7] rfl)
      · have hf := ite_f c13 hf
        refine lv_iconst (v := 0) hx hb (dc tbL_law_24_k 31 rfl) ic_0 ?_
        cases hf
  · have hf := ite_f c10 hf
    refine lv_iconst (v := 0) hx hb (dc tbL_law_24_k 20 rfl) ic_0 ?_
    cases hf
def mlc_39 (a1 a2 a3 a4 a5 : Int32) (M N : Mem) : Option (Mem × Mem) := cal (mX6_greatestCost 0 M) (fun M3 r2 => cal (mX7_greatestCost 135 N) (fun N6 r5 => ite2 (r2 = r5) (some (M3, N6)) (none)))
set_option maxHeartbeats 4000000 in
set_option maxRecDepth 100000 in
theorem lc_39 (C : Lx p l s m args meth c b L xs G kd kd' ad) (hc : cells + 64 ≤ 600002 ∧ slots + 512 ≤ 7302232) {x5 a0 a1 a2 a3 a4 a5 : Int32} (hs : Sc xs L x5 a0 a1 a2 a3 a4 a5) {M N M' N' : Mem} (hf : mlc_39 a1 a2 a3 a4 a5 M N = some (M', N')) (hk : AtW p l e s m args below meth c G kd kd' ad b x5 M' N' Q (cells + 64) (slots + 512) 2624) : AtW p l e s m args below meth c G kd kd' ad b x5 M N Q cells slots 1843 := by
  intro H locs ls hI hJ hl
  obtain ⟨hx, hb, hml, hown, hts, hK, hap, hap2, hsx, hsx2, hnc, hst, hA, hd1, hd2, hX, hbl, hbA, hk0, hS, hk1, hk3, hk2⟩ := id C
  unfold mlc_39 at hf
  refine lv_aload_n hx hb (dc tbL_law_24_k 34 rfl) rfl (lv_at hl 1 rfl) ?_
  obtain ⟨M3, r2, q1, hf⟩ := cal_s hf
  refine l_calli (g_runV hx hb hml hown hts hK hap hsx hI (tX6_greatestCost l hk0 q1 H.size) cv_X6_greatestCost q_t3_151 rfl rfl ⟨Nat.le_of_ble_eq_true rfl, Nat.le_of_ble_eq_true rfl⟩ hk0.1 (by simp) rfl rfl rfl hl.1 rfl (Nat.le_of_ble_eq_true rfl) (dc tbL_law_24_k 35 rfl) ⟨by have := hc.1; show _ ≤ 600002; omega, by have := hc.2; show _ ≤ 7302232; omega⟩) hI hJ hA hd1 (fun H locs hI hJ => ?_)
  refine lv_aload_n hx hb (dc tbL_law_24_k 36 rfl) rfl (lv_at hl 2 rfl) ?_
  obtain ⟨N6, r5, q4, hf⟩ := cal_s hf
  refine l_calli (g_runV hx hb hml hown hts hK hap2 hsx2 hJ (tX7_greatestCost l hk2 q4 H.size) cv_X7_greatestCost q_t9_151 rfl rfl ⟨Nat.le_of_ble_eq_true rfl, Nat.le_of_ble_eq_true rfl⟩ hk2.1 (by simp) rfl rfl rfl hl.1 rfl (Nat.le_of_ble_eq_true rfl) (dc tbL_law_24_k 37 rfl) ⟨by have := hc.1; show _ ≤ 600002; omega, by have := hc.2; show _ ≤ 7302232; omega⟩) hJ hI hA.symm hd2 (fun H locs hJ hI => ?_)
  refine lv_icmp_eq (tgt := 2624) hx hb (dc tbL_law_24_k 38 rfl) rfl (fun c7 => ?_) (fun c7 => ?_)
  · have hf := ite_t c7 hf
    cases hf
    refine W.widen (k := cells + 64) (n := slots + 512) (by omega) (by omega) ?_
    exact hk _ _ _ hI hJ (lv_sub hl [0, 1, 2, 3, 4, 5] rfl)
  · have hf := ite_f c7 hf
    refine lv_iconst (v := 0) hx hb (dc tbL_law_24_k 39 rfl) ic_0 ?_
    cases hf
def mlc_40 (a1 a2 a3 a4 a5 : Int32) (M N : Mem) : Option (Mem × Mem) := calh (mL_ordersWith 0 152 a1 a2 M) (fun M3 r2 => cal (mX7_ordersWith 135 a1 a2 N) (fun N6 r5 => cap (mX7_thrown 135 N6) (fun r8 => ite2 (r8 = r2) (ite2 (r2 = 0) (chk (okb (0 : Int32) 1) (ite2 ((lg_cmp (rl M3 152 ((0 : Int32)).toNatClampNeg) r5) = 0) (some (M3, N6)) (none))) (some (M3, N6))) (none))))
set_option maxHeartbeats 4000000 in
set_option maxRecDepth 100000 in
theorem lc_40 (C : Lx p l s m args meth c b L xs G kd kd' ad) (hc : cells + 64 ≤ 600002 ∧ slots + 512 ≤ 7302232) {x5 a0 a1 a2 a3 a4 a5 : Int32} (hs : Sc xs L x5 a0 a1 a2 a3 a4 a5) {M N M' N' : Mem} (hf : mlc_40 a1 a2 a3 a4 a5 M N = some (M', N')) (hk : AtW p l e s m args below meth c G kd kd' ad b x5 M' N' Q (cells + 64) (slots + 512) 2624) : AtW p l e s m args below meth c G kd kd' ad b x5 M N Q cells slots 1856 := by
  intro H locs ls hI hJ hl
  obtain ⟨hx, hb, hml, hown, hts, hK, hap, hap2, hsx, hsx2, hnc, hst, hA, hd1, hd2, hX, hbl, hbA, hk0, hS, hk1, hk3, hk2⟩ := id C
  unfold mlc_40 at hf
  refine lv_aload_n hx hb (dc tbL_law_25_k 1 rfl) rfl (lv_at hl 1 rfl) ?_
  refine lv_aload_n hx hb (dc tbL_law_25_k 2 rfl) rfl (lv_at hl 0 rfl) ?_
  refine lv_iload hx hb (dc tbL_law_25_k 3 rfl) (lv_at hl 5 rfl) ?_
  refine lv_iconst (v := 1) hx hb (dc tbL_law_25_k 4 rfl) ic_1 ?_
  refine lv_iadd hx hb (dc tbL_law_25_k 5 rfl) ?_
  refine l_sld hx hb hX hbl hbA hI hs.2.1.1 hs.2.1.2 (dc tbL_law_25_k 6 rfl) ?_
  refine lv_aload_n hx hb (dc tbL_law_25_k 7 rfl) rfl (lv_at hl 0 rfl) ?_
  refine lv_iload hx hb (dc tbL_law_25_k 8 rfl) (lv_at hl 5 rfl) ?_
  refine lv_iconst (v := 2) hx hb (dc tbL_law_25_k 9 rfl) ic_2 ?_
  refine lv_iadd hx hb (dc tbL_law_25_k 10 rfl) ?_
  refine l_sld hx hb hX hbl hbA hI hs.2.2.1.1 hs.2.2.1.2 (dc tbL_law_25_k 11 rfl) ?_
  refine lv_aload_n hx hb (dc tbL_law_25_k 12 rfl) rfl (lv_at hl 3 rfl) ?_
  obtain ⟨M3, r2, q1, hf⟩ := calh_s hf
  refine l_callH (g_runH hx hb hml hown hts hK hap hsx hnc hI (tL_ordersWith l hst hk0 hk1 q1 H.size) ch_L_ordersWith q_t6_175 rfl rfl ⟨Nat.le_of_ble_eq_true rfl, Nat.le_of_ble_eq_true rfl⟩ rfl hl.1 rfl (Nat.le_of_ble_eq_true rfl) (dc tbL_law_25_k 13 rfl) ⟨by have := hc.1; show _ ≤ 600002; omega, by have := hc.2; show _ ≤ 7302232; omega⟩) hI hJ hA hd1 (fun H locs hI hJ => ?_)
  refine lv_istore (lv' := [(6, .int r2), (0, .ref b), (1, .ref (ad 0)), (2, .ref (ad 135)), (3, .ref (ad 152)), (4, .ref (ad 153)), (5, .int x5)]) hx hb (dc tbL_law_25_k 14 rfl) hl (by decide) rfl (fun ls hl => ?_)
  refine lv_aload_n hx hb (dc tbL_law_25_k 15 rfl) rfl (lv_at hl 3 rfl) ?_
  refine lv_aload_n hx hb (dc tbL_law_25_k 16 rfl) rfl (lv_at hl 1 rfl) ?_
  refine lv_iload hx hb (dc tbL_law_25_k 17 rfl) (lv_at hl 6 rfl) ?_
  refine lv_iconst (v := 1) hx hb (dc tbL_law_25_k 18 rfl) ic_1 ?_
  refine lv_iadd hx hb (dc tbL_law_25_k 19 rfl) ?_
  refine l_sld hx hb hX hbl hbA hI hs.2.1.1 hs.2.1.2 (dc tbL_law_25_k 20 rfl) ?_
  refine lv_aload_n hx hb (dc tbL_law_25_k 21 rfl) rfl (lv_at hl 1 rfl) ?_
  refine lv_iload hx hb (dc tbL_law_25_k 22 rfl) (lv_at hl 6 rfl) ?_
  refine lv_iconst (v := 2) hx hb (dc tbL_law_25_k 23 rfl) ic_2 ?_
  refine lv_iadd hx hb (dc tbL_law_25_k 24 rfl) ?_
  refine l_sld hx hb hX hbl hbA hI hs.2.2.1.1 hs.2.2.1.2 (dc tbL_law_25_k 25 rfl) ?_
  obtain ⟨N6, r5, q4, hf⟩ := cal_s hf
  refine l_calll (g_runV hx hb hml hown hts hK hap2 hsx2 hJ (tX7_ordersWith l hk2 q4 H.size) cv_X7_ordersWith q_t9_155 rfl rfl ⟨Nat.le_of_ble_eq_true rfl, Nat.le_of_ble_eq_true rfl⟩ hk2.1 (by simp) rfl rfl rfl hl.1 rfl (Nat.le_of_ble_eq_true rfl) (dc tbL_law_25_k 26 rfl) ⟨by have := hc.1; show _ ≤ 600002; omega, by have := hc.2; show _ ≤ 7302232; omega⟩) hJ hI hA.symm hd2 (fun H locs hJ hI => ?_)
  refine lv_lstore (lv' := [(7, .long r5), (6, .int r2), (0, .ref b), (1, .ref (ad 0)), (2, .ref (ad 135)), (3, .ref (ad 152)), (4, .ref (ad 153)), (5, .int x5)]) hx hb (dc tbL_law_25_k 27 rfl) hl (by decide) rfl (fun ls hl => ?_)
  refine lv_aload_n hx hb (dc tbL_law_25_k 28 rfl) rfl (lv_at hl 4 rfl) ?_
  obtain ⟨r8, q7, hf⟩ := cap_s hf
  refine l_calli (g_runV hx hb hml hown hts hK hap2 hsx2 hJ (tX7_thrown l hk2 q7 H.size) cv_X7_thrown q_t7_170 rfl rfl ⟨Nat.le_of_ble_eq_true rfl, Nat.le_of_ble_eq_true rfl⟩ hk2.1 (by simp) rfl rfl rfl hl.1 rfl (Nat.le_of_ble_eq_true rfl) (dc tbL_law_25_k 29 rfl) ⟨by have := hc.1; show _ ≤ 600002; omega, by have := hc.2; show _ ≤ 7302232; omega⟩) hJ hI hA.symm hd2 (fun H locs hJ hI => ?_)
  refine lv_iload hx hb (dc tbL_law_25_k 30 rfl) (lv_at hl 1 rfl) ?_
  refine lv_icmp_eq (tgt := 1904) hx hb (dc tbL_law_25_k 31 rfl) rfl (fun c10 => ?_) (fun c10 => ?_)
  · have hf := ite_t c10 hf
    refine lv_iload hx hb (dc tbL_law_25_k 34 rfl) (lv_at hl 1 rfl) ?_
    refine lv_if_ne (tgt := 1920) hx hb (dc tbL_law_25_k 35 rfl) rfl (fun c11 => ?_) (fun c11 => ?_)
    · have hf := ite_f c11 hf
      refine lv_goto (tgt := 2624) hx hb (dc tbL_law_26_k 4 rfl) rfl ?_
      cases hf
      refine W.widen (k := cells + 64) (n := slots + 512) (by omega) (by omega) ?_
      exact hk _ _ _ hI hJ (lv_sub hl [2, 3, 4, 5, 6, 7] rfl)
    · have hf := ite_t c11 hf
      refine lv_aload_n hx hb (dc tbL_law_25_k 36 rfl) rfl (lv_at hl 5 rfl) ?_
      refine lv_iconst (v := 0) hx hb (dc tbL_law_25_k 37 rfl) ic_0 ?_
      obtain ⟨h12, hf⟩ := chk_s hf
      refine g_lald hx hb hK hI hk1 (okb_in h12) (dc tbL_law_25_k 38 rfl) ?_
      refine lv_lload hx hb (dc tbL_law_25_k 39 rfl) (lv_at hl 0 rfl) ?_
      refine W.lcmp hx hb (dc tbL_law_26_k 0 rfl) ?_
      refine lv_if_eq (tgt := 1920) hx hb (dc tbL_law_26_k 1 rfl) rfl (fun c13 => ?_) (fun c13 => ?_)
      · have hf := ite_t c13 hf
        refine lv_goto (tgt := 2624) hx hb (dc tbL_law_26_k 4 rfl) rfl ?_
        cases hf
        refine W.widen (k := cells + 64) (n := slots + 512) (by omega) (by omega) ?_
        exact hk _ _ _ hI hJ (lv_sub hl [2, 3, 4, 5, 6, 7] rfl)
      · have hf := ite_f c13 hf
        refine lv_iconst (v := 0) hx hb (dc tbL_law_26_k 2 rfl) ic_0 ?_
        cases hf
  · have hf := ite_f c10 hf
    refine lv_iconst (v := 0) hx hb (dc tbL_law_25_k 32 rfl) ic_0 ?_
    cases hf
def mlc_41 (a1 a2 a3 a4 a5 : Int32) (M N : Mem) : Option (Mem × Mem) := cal (mX6_lastSteps 0 M) (fun M3 r2 => cal (mX7_lastSteps 135 N) (fun N6 r5 => ite2 (r2 = r5) (some (M3, N6)) (none)))
set_option maxHeartbeats 4000000 in
set_option maxRecDepth 100000 in
theorem lc_41 (C : Lx p l s m args meth c b L xs G kd kd' ad) (hc : cells + 64 ≤ 600002 ∧ slots + 512 ≤ 7302232) {x5 a0 a1 a2 a3 a4 a5 : Int32} (hs : Sc xs L x5 a0 a1 a2 a3 a4 a5) {M N M' N' : Mem} (hf : mlc_41 a1 a2 a3 a4 a5 M N = some (M', N')) (hk : AtW p l e s m args below meth c G kd kd' ad b x5 M' N' Q (cells + 64) (slots + 512) 2624) : AtW p l e s m args below meth c G kd kd' ad b x5 M N Q cells slots 1923 := by
  intro H locs ls hI hJ hl
  obtain ⟨hx, hb, hml, hown, hts, hK, hap, hap2, hsx, hsx2, hnc, hst, hA, hd1, hd2, hX, hbl, hbA, hk0, hS, hk1, hk3, hk2⟩ := id C
  unfold mlc_41 at hf
  refine lv_aload_n hx hb (dc tbL_law_26_k 5 rfl) rfl (lv_at hl 1 rfl) ?_
  obtain ⟨M3, r2, q1, hf⟩ := cal_s hf
  refine l_calli (g_runV hx hb hml hown hts hK hap hsx hI (tX6_lastSteps l hk0 q1 H.size) cv_X6_lastSteps q_t3_155 rfl rfl ⟨Nat.le_of_ble_eq_true rfl, Nat.le_of_ble_eq_true rfl⟩ hk0.1 (by simp) rfl rfl rfl hl.1 rfl (Nat.le_of_ble_eq_true rfl) (dc tbL_law_26_k 6 rfl) ⟨by have := hc.1; show _ ≤ 600002; omega, by have := hc.2; show _ ≤ 7302232; omega⟩) hI hJ hA hd1 (fun H locs hI hJ => ?_)
  refine lv_aload_n hx hb (dc tbL_law_26_k 7 rfl) rfl (lv_at hl 2 rfl) ?_
  obtain ⟨N6, r5, q4, hf⟩ := cal_s hf
  refine l_calli (g_runV hx hb hml hown hts hK hap2 hsx2 hJ (tX7_lastSteps l hk2 q4 H.size) cv_X7_lastSteps q_t9_159 rfl rfl ⟨Nat.le_of_ble_eq_true rfl, Nat.le_of_ble_eq_true rfl⟩ hk2.1 (by simp) rfl rfl rfl hl.1 rfl (Nat.le_of_ble_eq_true rfl) (dc tbL_law_26_k 8 rfl) ⟨by have := hc.1; show _ ≤ 600002; omega, by have := hc.2; show _ ≤ 7302232; omega⟩) hJ hI hA.symm hd2 (fun H locs hJ hI => ?_)
  refine lv_icmp_eq (tgt := 2624) hx hb (dc tbL_law_26_k 9 rfl) rfl (fun c7 => ?_) (fun c7 => ?_)
  · have hf := ite_t c7 hf
    cases hf
    refine W.widen (k := cells + 64) (n := slots + 512) (by omega) (by omega) ?_
    exact hk _ _ _ hI hJ (lv_sub hl [0, 1, 2, 3, 4, 5] rfl)
  · have hf := ite_f c7 hf
    refine lv_iconst (v := 0) hx hb (dc tbL_law_26_k 10 rfl) ic_0 ?_
    cases hf
def mlc_42 (a1 a2 a3 a4 a5 : Int32) (M N : Mem) : Option (Mem × Mem) := cal (mX6_mostBends 0 M) (fun M3 r2 => cal (mX7_mostBends 135 N) (fun N6 r5 => ite2 (r2 = r5) (some (M3, N6)) (none)))
set_option maxHeartbeats 4000000 in
set_option maxRecDepth 100000 in
theorem lc_42 (C : Lx p l s m args meth c b L xs G kd kd' ad) (hc : cells + 64 ≤ 600002 ∧ slots + 512 ≤ 7302232) {x5 a0 a1 a2 a3 a4 a5 : Int32} (hs : Sc xs L x5 a0 a1 a2 a3 a4 a5) {M N M' N' : Mem} (hf : mlc_42 a1 a2 a3 a4 a5 M N = some (M', N')) (hk : AtW p l e s m args below meth c G kd kd' ad b x5 M' N' Q (cells + 64) (slots + 512) 2624) : AtW p l e s m args below meth c G kd kd' ad b x5 M N Q cells slots 1936 := by
  intro H locs ls hI hJ hl
  obtain ⟨hx, hb, hml, hown, hts, hK, hap, hap2, hsx, hsx2, hnc, hst, hA, hd1, hd2, hX, hbl, hbA, hk0, hS, hk1, hk3, hk2⟩ := id C
  unfold mlc_42 at hf
  refine lv_aload_n hx hb (dc tbL_law_26_k 12 rfl) rfl (lv_at hl 1 rfl) ?_
  obtain ⟨M3, r2, q1, hf⟩ := cal_s hf
  refine l_calli (g_runV hx hb hml hown hts hK hap hsx hI (tX6_mostBends l hk0 q1 H.size) cv_X6_mostBends q_t3_163 rfl rfl ⟨Nat.le_of_ble_eq_true rfl, Nat.le_of_ble_eq_true rfl⟩ hk0.1 (by simp) rfl rfl rfl hl.1 rfl (Nat.le_of_ble_eq_true rfl) (dc tbL_law_26_k 13 rfl) ⟨by have := hc.1; show _ ≤ 600002; omega, by have := hc.2; show _ ≤ 7302232; omega⟩) hI hJ hA hd1 (fun H locs hI hJ => ?_)
  refine lv_aload_n hx hb (dc tbL_law_26_k 14 rfl) rfl (lv_at hl 2 rfl) ?_
  obtain ⟨N6, r5, q4, hf⟩ := cal_s hf
  refine l_calli (g_runV hx hb hml hown hts hK hap2 hsx2 hJ (tX7_mostBends l hk2 q4 H.size) cv_X7_mostBends q_t9_167 rfl rfl ⟨Nat.le_of_ble_eq_true rfl, Nat.le_of_ble_eq_true rfl⟩ hk2.1 (by simp) rfl rfl rfl hl.1 rfl (Nat.le_of_ble_eq_true rfl) (dc tbL_law_26_k 15 rfl) ⟨by have := hc.1; show _ ≤ 600002; omega, by have := hc.2; show _ ≤ 7302232; omega⟩) hJ hI hA.symm hd2 (fun H locs hJ hI => ?_)
  refine lv_icmp_eq (tgt := 2624) hx hb (dc tbL_law_26_k 16 rfl) rfl (fun c7 => ?_) (fun c7 => ?_)
  · have hf := ite_t c7 hf
    cases hf
    refine W.widen (k := cells + 64) (n := slots + 512) (by omega) (by omega) ?_
    exact hk _ _ _ hI hJ (lv_sub hl [0, 1, 2, 3, 4, 5] rfl)
  · have hf := ite_f c7 hf
    refine lv_iconst (v := 0) hx hb (dc tbL_law_26_k 17 rfl) ic_0 ?_
    cases hf
def mlc_43 (a1 a2 a3 a4 a5 : Int32) (M N : Mem) : Option (Mem × Mem) := cal (mX6_greatestBeam 0 M) (fun M3 r2 => cal (mX7_greatestBeam 135 N) (fun N6 r5 => ite2 (r2 = r5) (some (M3, N6)) (none)))
set_option maxHeartbeats 4000000 in
set_option maxRecDepth 100000 in
theorem lc_43 (C : Lx p l s m args meth c b L xs G kd kd' ad) (hc : cells + 64 ≤ 600002 ∧ slots + 512 ≤ 7302232) {x5 a0 a1 a2 a3 a4 a5 : Int32} (hs : Sc xs L x5 a0 a1 a2 a3 a4 a5) {M N M' N' : Mem} (hf : mlc_43 a1 a2 a3 a4 a5 M N = some (M', N')) (hk : AtW p l e s m args below meth c G kd kd' ad b x5 M' N' Q (cells + 64) (slots + 512) 2624) : AtW p l e s m args below meth c G kd kd' ad b x5 M N Q cells slots 1949 := by
  intro H locs ls hI hJ hl
  obtain ⟨hx, hb, hml, hown, hts, hK, hap, hap2, hsx, hsx2, hnc, hst, hA, hd1, hd2, hX, hbl, hbA, hk0, hS, hk1, hk3, hk2⟩ := id C
  unfold mlc_43 at hf
  refine lv_aload_n hx hb (dc tbL_law_26_k 19 rfl) rfl (lv_at hl 1 rfl) ?_
  obtain ⟨M3, r2, q1, hf⟩ := cal_s hf
  refine l_calli (g_runV hx hb hml hown hts hK hap hsx hI (tX6_greatestBeam l hk0 q1 H.size) cv_X6_greatestBeam q_t3_178 rfl rfl ⟨Nat.le_of_ble_eq_true rfl, Nat.le_of_ble_eq_true rfl⟩ hk0.1 (by simp) rfl rfl rfl hl.1 rfl (Nat.le_of_ble_eq_true rfl) (dc tbL_law_26_k 20 rfl) ⟨by have := hc.1; show _ ≤ 600002; omega, by have := hc.2; show _ ≤ 7302232; omega⟩) hI hJ hA hd1 (fun H locs hI hJ => ?_)
  refine lv_aload_n hx hb (dc tbL_law_26_k 21 rfl) rfl (lv_at hl 2 rfl) ?_
  obtain ⟨N6, r5, q4, hf⟩ := cal_s hf
  refine l_calli (g_runV hx hb hml hown hts hK hap2 hsx2 hJ (tX7_greatestBeam l hk2 q4 H.size) cv_X7_greatestBeam q_t9_171 rfl rfl ⟨Nat.le_of_ble_eq_true rfl, Nat.le_of_ble_eq_true rfl⟩ hk2.1 (by simp) rfl rfl rfl hl.1 rfl (Nat.le_of_ble_eq_true rfl) (dc tbL_law_26_k 22 rfl) ⟨by have := hc.1; show _ ≤ 600002; omega, by have := hc.2; show _ ≤ 7302232; omega⟩) hJ hI hA.symm hd2 (fun H locs hJ hI => ?_)
  refine lv_icmp_eq (tgt := 2624) hx hb (dc tbL_law_26_k 23 rfl) rfl (fun c7 => ?_) (fun c7 => ?_)
  · have hf := ite_t c7 hf
    cases hf
    refine W.widen (k := cells + 64) (n := slots + 512) (by omega) (by omega) ?_
    exact hk _ _ _ hI hJ (lv_sub hl [0, 1, 2, 3, 4, 5] rfl)
  · have hf := ite_f c7 hf
    refine lv_iconst (v := 0) hx hb (dc tbL_law_26_k 24 rfl) ic_0 ?_
    cases hf
def mlc_44 (a1 a2 a3 a4 a5 : Int32) (M N : Mem) : Option (Mem × Mem) := calh (mL_costIfTurned 0 152 a1 M) (fun M3 r2 => cal (mX7_costIfTurned 135 a1 N) (fun N6 r5 => cap (mX7_thrown 135 N6) (fun r8 => ite2 (r8 = r2) (ite2 (r2 = 0) (chk (okb (0 : Int32) 1) (ite2 ((lg_cmp (rl M3 152 ((0 : Int32)).toNatClampNeg) (r5).toInt64) = 0) (some (M3, N6)) (none))) (some (M3, N6))) (none))))
set_option maxHeartbeats 4000000 in
set_option maxRecDepth 100000 in
theorem lc_44 (C : Lx p l s m args meth c b L xs G kd kd' ad) (hc : cells + 64 ≤ 600002 ∧ slots + 512 ≤ 7302232) {x5 a0 a1 a2 a3 a4 a5 : Int32} (hs : Sc xs L x5 a0 a1 a2 a3 a4 a5) {M N M' N' : Mem} (hf : mlc_44 a1 a2 a3 a4 a5 M N = some (M', N')) (hk : AtW p l e s m args below meth c G kd kd' ad b x5 M' N' Q (cells + 64) (slots + 512) 2624) : AtW p l e s m args below meth c G kd kd' ad b x5 M N Q cells slots 1962 := by
  intro H locs ls hI hJ hl
  obtain ⟨hx, hb, hml, hown, hts, hK, hap, hap2, hsx, hsx2, hnc, hst, hA, hd1, hd2, hX, hbl, hbA, hk0, hS, hk1, hk3, hk2⟩ := id C
  unfold mlc_44 at hf
  refine lv_aload_n hx hb (dc tbL_law_26_k 26 rfl) rfl (lv_at hl 1 rfl) ?_
  refine lv_aload_n hx hb (dc tbL_law_26_k 27 rfl) rfl (lv_at hl 0 rfl) ?_
  refine lv_iload hx hb (dc tbL_law_26_k 28 rfl) (lv_at hl 5 rfl) ?_
  refine lv_iconst (v := 1) hx hb (dc tbL_law_26_k 29 rfl) ic_1 ?_
  refine lv_iadd hx hb (dc tbL_law_26_k 30 rfl) ?_
  refine l_sld hx hb hX hbl hbA hI hs.2.1.1 hs.2.1.2 (dc tbL_law_26_k 31 rfl) ?_
  refine lv_aload_n hx hb (dc tbL_law_26_k 32 rfl) rfl (lv_at hl 3 rfl) ?_
  obtain ⟨M3, r2, q1, hf⟩ := calh_s hf
  refine l_callH (g_runH hx hb hml hown hts hK hap hsx hnc hI (tL_costIfTurned l hst hk0 hk1 q1 H.size) ch_L_costIfTurned q_t6_182 rfl rfl ⟨Nat.le_of_ble_eq_true rfl, Nat.le_of_ble_eq_true rfl⟩ rfl hl.1 rfl (Nat.le_of_ble_eq_true rfl) (dc tbL_law_26_k 33 rfl) ⟨by have := hc.1; show _ ≤ 600002; omega, by have := hc.2; show _ ≤ 7302232; omega⟩) hI hJ hA hd1 (fun H locs hI hJ => ?_)
  refine lv_istore (lv' := [(6, .int r2), (0, .ref b), (1, .ref (ad 0)), (2, .ref (ad 135)), (3, .ref (ad 152)), (4, .ref (ad 153)), (5, .int x5)]) hx hb (dc tbL_law_26_k 34 rfl) hl (by decide) rfl (fun ls hl => ?_)
  refine lv_aload_n hx hb (dc tbL_law_26_k 35 rfl) rfl (lv_at hl 3 rfl) ?_
  refine lv_aload_n hx hb (dc tbL_law_26_k 36 rfl) rfl (lv_at hl 1 rfl) ?_
  refine lv_iload hx hb (dc tbL_law_26_k 37 rfl) (lv_at hl 6 rfl) ?_
  refine lv_iconst (v := 1) hx hb (dc tbL_law_26_k 38 rfl) ic_1 ?_
  refine lv_iadd hx hb (dc tbL_law_26_k 39 rfl) ?_
  refine l_sld hx hb hX hbl hbA hI hs.2.1.1 hs.2.1.2 (dc tbL_law_27_k 0 rfl) ?_
  obtain ⟨N6, r5, q4, hf⟩ := cal_s hf
  refine l_calli (g_runV hx hb hml hown hts hK hap2 hsx2 hJ (tX7_costIfTurned l hk2 q4 H.size) cv_X7_costIfTurned q_t9_175 rfl rfl ⟨Nat.le_of_ble_eq_true rfl, Nat.le_of_ble_eq_true rfl⟩ hk2.1 (by simp) rfl rfl rfl hl.1 rfl (Nat.le_of_ble_eq_true rfl) (dc tbL_law_27_k 1 rfl) ⟨by have := hc.1; show _ ≤ 600002; omega, by have := hc.2; show _ ≤ 7302232; omega⟩) hJ hI hA.symm hd2 (fun H locs hJ hI => ?_)
  refine lv_istore (lv' := [(7, .int r5), (6, .int r2), (0, .ref b), (1, .ref (ad 0)), (2, .ref (ad 135)), (3, .ref (ad 152)), (4, .ref (ad 153)), (5, .int x5)]) hx hb (dc tbL_law_27_k 2 rfl) hl (by decide) rfl (fun ls hl => ?_)
  refine lv_aload_n hx hb (dc tbL_law_27_k 3 rfl) rfl (lv_at hl 4 rfl) ?_
  obtain ⟨r8, q7, hf⟩ := cap_s hf
  refine l_calli (g_runV hx hb hml hown hts hK hap2 hsx2 hJ (tX7_thrown l hk2 q7 H.size) cv_X7_thrown q_t7_170 rfl rfl ⟨Nat.le_of_ble_eq_true rfl, Nat.le_of_ble_eq_true rfl⟩ hk2.1 (by simp) rfl rfl rfl hl.1 rfl (Nat.le_of_ble_eq_true rfl) (dc tbL_law_27_k 4 rfl) ⟨by have := hc.1; show _ ≤ 600002; omega, by have := hc.2; show _ ≤ 7302232; omega⟩) hJ hI hA.symm hd2 (fun H locs hJ hI => ?_)
  refine lv_iload hx hb (dc tbL_law_27_k 5 rfl) (lv_at hl 1 rfl) ?_
  refine lv_icmp_eq (tgt := 1998) hx hb (dc tbL_law_27_k 6 rfl) rfl (fun c10 => ?_) (fun c10 => ?_)
  · have hf := ite_t c10 hf
    refine lv_iload hx hb (dc tbL_law_27_k 9 rfl) (lv_at hl 1 rfl) ?_
    refine lv_if_ne (tgt := 2015) hx hb (dc tbL_law_27_k 10 rfl) rfl (fun c11 => ?_) (fun c11 => ?_)
    · have hf := ite_f c11 hf
      refine lv_goto (tgt := 2624) hx hb (dc tbL_law_27_k 20 rfl) rfl ?_
      cases hf
      refine W.widen (k := cells + 64) (n := slots + 512) (by omega) (by omega) ?_
      exact hk _ _ _ hI hJ (lv_sub hl [2, 3, 4, 5, 6, 7] rfl)
    · have hf := ite_t c11 hf
      refine lv_aload_n hx hb (dc tbL_law_27_k 11 rfl) rfl (lv_at hl 5 rfl) ?_
      refine lv_iconst (v := 0) hx hb (dc tbL_law_27_k 12 rfl) ic_0 ?_
      obtain ⟨h12, hf⟩ := chk_s hf
      refine g_lald hx hb hK hI hk1 (okb_in h12) (dc tbL_law_27_k 13 rfl) ?_
      refine lv_iload hx hb (dc tbL_law_27_k 14 rfl) (lv_at hl 0 rfl) ?_
      refine lv_i2l hx hb (dc tbL_law_27_k 15 rfl) rfl ?_
      refine W.lcmp hx hb (dc tbL_law_27_k 16 rfl) ?_
      refine lv_if_eq (tgt := 2015) hx hb (dc tbL_law_27_k 17 rfl) rfl (fun c13 => ?_) (fun c13 => ?_)
      · have hf := ite_t c13 hf
        refine lv_goto (tgt := 2624) hx hb (dc tbL_law_27_k 20 rfl) rfl ?_
        cases hf
        refine W.widen (k := cells + 64) (n := slots + 512) (by omega) (by omega) ?_
        exact hk _ _ _ hI hJ (lv_sub hl [2, 3, 4, 5, 6, 7] rfl)
      · have hf := ite_f c13 hf
        refine lv_iconst (v := 0) hx hb (dc tbL_law_27_k 18 rfl) ic_0 ?_
        cases hf
  · have hf := ite_f c10 hf
    refine lv_iconst (v := 0) hx hb (dc tbL_law_27_k 7 rfl) ic_0 ?_
    cases hf
def mlc_45 (a1 a2 a3 a4 a5 : Int32) (M N : Mem) : Option (Mem × Mem) := calh (mL_fold 0 152 a1 a2 M) (fun M3 r2 => cal (mX7_fold 135 a1 a2 N) (fun N6 r5 => cap (mX7_thrown 135 N6) (fun r8 => ite2 (r8 = r2) (ite2 (r2 = 0) (chk (okb (0 : Int32) 1) (ite2 ((lg_cmp (rl M3 152 ((0 : Int32)).toNatClampNeg) (r5).toInt64) = 0) (some (M3, N6)) (none))) (some (M3, N6))) (none))))
set_option maxHeartbeats 4000000 in
set_option maxRecDepth 100000 in
theorem lc_45 (C : Lx p l s m args meth c b L xs G kd kd' ad) (hc : cells + 64 ≤ 600002 ∧ slots + 512 ≤ 7302232) {x5 a0 a1 a2 a3 a4 a5 : Int32} (hs : Sc xs L x5 a0 a1 a2 a3 a4 a5) {M N M' N' : Mem} (hf : mlc_45 a1 a2 a3 a4 a5 M N = some (M', N')) (hk : AtW p l e s m args below meth c G kd kd' ad b x5 M' N' Q (cells + 64) (slots + 512) 2624) : AtW p l e s m args below meth c G kd kd' ad b x5 M N Q cells slots 2018 := by
  intro H locs ls hI hJ hl
  obtain ⟨hx, hb, hml, hown, hts, hK, hap, hap2, hsx, hsx2, hnc, hst, hA, hd1, hd2, hX, hbl, hbA, hk0, hS, hk1, hk3, hk2⟩ := id C
  unfold mlc_45 at hf
  refine lv_aload_n hx hb (dc tbL_law_27_k 21 rfl) rfl (lv_at hl 1 rfl) ?_
  refine lv_aload_n hx hb (dc tbL_law_27_k 22 rfl) rfl (lv_at hl 0 rfl) ?_
  refine lv_iload hx hb (dc tbL_law_27_k 23 rfl) (lv_at hl 5 rfl) ?_
  refine lv_iconst (v := 1) hx hb (dc tbL_law_27_k 24 rfl) ic_1 ?_
  refine lv_iadd hx hb (dc tbL_law_27_k 25 rfl) ?_
  refine l_sld hx hb hX hbl hbA hI hs.2.1.1 hs.2.1.2 (dc tbL_law_27_k 26 rfl) ?_
  refine lv_aload_n hx hb (dc tbL_law_27_k 27 rfl) rfl (lv_at hl 0 rfl) ?_
  refine lv_iload hx hb (dc tbL_law_27_k 28 rfl) (lv_at hl 5 rfl) ?_
  refine lv_iconst (v := 2) hx hb (dc tbL_law_27_k 29 rfl) ic_2 ?_
  refine lv_iadd hx hb (dc tbL_law_27_k 30 rfl) ?_
  refine l_sld hx hb hX hbl hbA hI hs.2.2.1.1 hs.2.2.1.2 (dc tbL_law_27_k 31 rfl) ?_
  refine lv_aload_n hx hb (dc tbL_law_27_k 32 rfl) rfl (lv_at hl 3 rfl) ?_
  obtain ⟨M3, r2, q1, hf⟩ := calh_s hf
  refine l_callH (g_runH hx hb hml hown hts hK hap hsx hnc hI (tL_fold l hst hk0 hk1 q1 H.size) ch_L_fold q_t6_210 rfl rfl ⟨Nat.le_of_ble_eq_true rfl, Nat.le_of_ble_eq_true rfl⟩ rfl hl.1 rfl (Nat.le_of_ble_eq_true rfl) (dc tbL_law_27_k 33 rfl) ⟨by have := hc.1; show _ ≤ 600002; omega, by have := hc.2; show _ ≤ 7302232; omega⟩) hI hJ hA hd1 (fun H locs hI hJ => ?_)
  refine lv_istore (lv' := [(6, .int r2), (0, .ref b), (1, .ref (ad 0)), (2, .ref (ad 135)), (3, .ref (ad 152)), (4, .ref (ad 153)), (5, .int x5)]) hx hb (dc tbL_law_27_k 34 rfl) hl (by decide) rfl (fun ls hl => ?_)
  refine lv_aload_n hx hb (dc tbL_law_27_k 35 rfl) rfl (lv_at hl 3 rfl) ?_
  refine lv_aload_n hx hb (dc tbL_law_27_k 36 rfl) rfl (lv_at hl 1 rfl) ?_
  refine lv_iload hx hb (dc tbL_law_27_k 37 rfl) (lv_at hl 6 rfl) ?_
  refine lv_iconst (v := 1) hx hb (dc tbL_law_27_k 38 rfl) ic_1 ?_
  refine lv_iadd hx hb (dc tbL_law_27_k 39 rfl) ?_
  refine l_sld hx hb hX hbl hbA hI hs.2.1.1 hs.2.1.2 (dc tbL_law_28_k 0 rfl) ?_
  refine lv_aload_n hx hb (dc tbL_law_28_k 1 rfl) rfl (lv_at hl 1 rfl) ?_
  refine lv_iload hx hb (dc tbL_law_28_k 2 rfl) (lv_at hl 6 rfl) ?_
  refine lv_iconst (v := 2) hx hb (dc tbL_law_28_k 3 rfl) ic_2 ?_
  refine lv_iadd hx hb (dc tbL_law_28_k 4 rfl) ?_
  refine l_sld hx hb hX hbl hbA hI hs.2.2.1.1 hs.2.2.1.2 (dc tbL_law_28_k 5 rfl) ?_
  obtain ⟨N6, r5, q4, hf⟩ := cal_s hf
  refine l_calli (g_runV hx hb hml hown hts hK hap2 hsx2 hJ (tX7_fold l hk2 q4 H.size) cv_X7_fold q_t9_179 rfl rfl ⟨Nat.le_of_ble_eq_true rfl, Nat.le_of_ble_eq_true rfl⟩ hk2.1 (by simp) rfl rfl rfl hl.1 rfl (Nat.le_of_ble_eq_true rfl) (dc tbL_law_28_k 6 rfl) ⟨by have := hc.1; show _ ≤ 600002; omega, by have := hc.2; show _ ≤ 7302232; omega⟩) hJ hI hA.symm hd2 (fun H locs hJ hI => ?_)
  refine lv_istore (lv' := [(7, .int r5), (6, .int r2), (0, .ref b), (1, .ref (ad 0)), (2, .ref (ad 135)), (3, .ref (ad 152)), (4, .ref (ad 153)), (5, .int x5)]) hx hb (dc tbL_law_28_k 7 rfl) hl (by decide) rfl (fun ls hl => ?_)
  refine lv_aload_n hx hb (dc tbL_law_28_k 8 rfl) rfl (lv_at hl 4 rfl) ?_
  obtain ⟨r8, q7, hf⟩ := cap_s hf
  refine l_calli (g_runV hx hb hml hown hts hK hap2 hsx2 hJ (tX7_thrown l hk2 q7 H.size) cv_X7_thrown q_t7_170 rfl rfl ⟨Nat.le_of_ble_eq_true rfl, Nat.le_of_ble_eq_true rfl⟩ hk2.1 (by simp) rfl rfl rfl hl.1 rfl (Nat.le_of_ble_eq_true rfl) (dc tbL_law_28_k 9 rfl) ⟨by have := hc.1; show _ ≤ 600002; omega, by have := hc.2; show _ ≤ 7302232; omega⟩) hJ hI hA.symm hd2 (fun H locs hJ hI => ?_)
  refine lv_iload hx hb (dc tbL_law_28_k 10 rfl) (lv_at hl 1 rfl) ?_
  refine lv_icmp_eq (tgt := 2066) hx hb (dc tbL_law_28_k 11 rfl) rfl (fun c10 => ?_) (fun c10 => ?_)
  · have hf := ite_t c10 hf
    refine lv_iload hx hb (dc tbL_law_28_k 14 rfl) (lv_at hl 1 rfl) ?_
    refine lv_if_ne (tgt := 2083) hx hb (dc tbL_law_28_k 15 rfl) rfl (fun c11 => ?_) (fun c11 => ?_)
    · have hf := ite_f c11 hf
      refine lv_goto (tgt := 2624) hx hb (dc tbL_law_28_k 25 rfl) rfl ?_
      cases hf
      refine W.widen (k := cells + 64) (n := slots + 512) (by omega) (by omega) ?_
      exact hk _ _ _ hI hJ (lv_sub hl [2, 3, 4, 5, 6, 7] rfl)
    · have hf := ite_t c11 hf
      refine lv_aload_n hx hb (dc tbL_law_28_k 16 rfl) rfl (lv_at hl 5 rfl) ?_
      refine lv_iconst (v := 0) hx hb (dc tbL_law_28_k 17 rfl) ic_0 ?_
      obtain ⟨h12, hf⟩ := chk_s hf
      refine g_lald hx hb hK hI hk1 (okb_in h12) (dc tbL_law_28_k 18 rfl) ?_
      refine lv_iload hx hb (dc tbL_law_28_k 19 rfl) (lv_at hl 0 rfl) ?_
      refine lv_i2l hx hb (dc tbL_law_28_k 20 rfl) rfl ?_
      refine W.lcmp hx hb (dc tbL_law_28_k 21 rfl) ?_
      refine lv_if_eq (tgt := 2083) hx hb (dc tbL_law_28_k 22 rfl) rfl (fun c13 => ?_) (fun c13 => ?_)
      · have hf := ite_t c13 hf
        refine lv_goto (tgt := 2624) hx hb (dc tbL_law_28_k 25 rfl) rfl ?_
        cases hf
        refine W.widen (k := cells + 64) (n := slots + 512) (by omega) (by omega) ?_
        exact hk _ _ _ hI hJ (lv_sub hl [2, 3, 4, 5, 6, 7] rfl)
      · have hf := ite_f c13 hf
        refine lv_iconst (v := 0) hx hb (dc tbL_law_28_k 23 rfl) ic_0 ?_
        cases hf
  · have hf := ite_f c10 hf
    refine lv_iconst (v := 0) hx hb (dc tbL_law_28_k 12 rfl) ic_0 ?_
    cases hf
def mlc_46 (a1 a2 a3 a4 a5 : Int32) (M N : Mem) : Option (Mem × Mem) := calh (mL_foldNext 0 152 M) (fun M3 r2 => cal (mX7_foldNext 135 N) (fun N6 r5 => cap (mX7_thrown 135 N6) (fun r8 => ite2 (r8 = r2) (ite2 (r2 = 0) (chk (okb (0 : Int32) 1) (ite2 ((lg_cmp (rl M3 152 ((0 : Int32)).toNatClampNeg) (r5).toInt64) = 0) (some (M3, N6)) (none))) (some (M3, N6))) (none))))
set_option maxHeartbeats 4000000 in
set_option maxRecDepth 100000 in
theorem lc_46 (C : Lx p l s m args meth c b L xs G kd kd' ad) (hc : cells + 64 ≤ 600002 ∧ slots + 512 ≤ 7302232) {x5 a0 a1 a2 a3 a4 a5 : Int32} (hs : Sc xs L x5 a0 a1 a2 a3 a4 a5) {M N M' N' : Mem} (hf : mlc_46 a1 a2 a3 a4 a5 M N = some (M', N')) (hk : AtW p l e s m args below meth c G kd kd' ad b x5 M' N' Q (cells + 64) (slots + 512) 2624) : AtW p l e s m args below meth c G kd kd' ad b x5 M N Q cells slots 2086 := by
  intro H locs ls hI hJ hl
  obtain ⟨hx, hb, hml, hown, hts, hK, hap, hap2, hsx, hsx2, hnc, hst, hA, hd1, hd2, hX, hbl, hbA, hk0, hS, hk1, hk3, hk2⟩ := id C
  unfold mlc_46 at hf
  refine lv_aload_n hx hb (dc tbL_law_28_k 26 rfl) rfl (lv_at hl 1 rfl) ?_
  refine lv_aload_n hx hb (dc tbL_law_28_k 27 rfl) rfl (lv_at hl 3 rfl) ?_
  obtain ⟨M3, r2, q1, hf⟩ := calh_s hf
  refine l_callH (g_runH hx hb hml hown hts hK hap hsx hnc hI (tL_foldNext l hst hk0 hk1 q1 H.size) ch_L_foldNext q_t6_226 rfl rfl ⟨Nat.le_of_ble_eq_true rfl, Nat.le_of_ble_eq_true rfl⟩ rfl hl.1 rfl (Nat.le_of_ble_eq_true rfl) (dc tbL_law_28_k 28 rfl) ⟨by have := hc.1; show _ ≤ 600002; omega, by have := hc.2; show _ ≤ 7302232; omega⟩) hI hJ hA hd1 (fun H locs hI hJ => ?_)
  refine lv_istore (lv' := [(6, .int r2), (0, .ref b), (1, .ref (ad 0)), (2, .ref (ad 135)), (3, .ref (ad 152)), (4, .ref (ad 153)), (5, .int x5)]) hx hb (dc tbL_law_28_k 29 rfl) hl (by decide) rfl (fun ls hl => ?_)
  refine lv_aload_n hx hb (dc tbL_law_28_k 30 rfl) rfl (lv_at hl 3 rfl) ?_
  obtain ⟨N6, r5, q4, hf⟩ := cal_s hf
  refine l_calli (g_runV hx hb hml hown hts hK hap2 hsx2 hJ (tX7_foldNext l hk2 q4 H.size) cv_X7_foldNext q_t9_195 rfl rfl ⟨Nat.le_of_ble_eq_true rfl, Nat.le_of_ble_eq_true rfl⟩ hk2.1 (by simp) rfl rfl rfl hl.1 rfl (Nat.le_of_ble_eq_true rfl) (dc tbL_law_28_k 31 rfl) ⟨by have := hc.1; show _ ≤ 600002; omega, by have := hc.2; show _ ≤ 7302232; omega⟩) hJ hI hA.symm hd2 (fun H locs hJ hI => ?_)
  refine lv_istore (lv' := [(7, .int r5), (6, .int r2), (0, .ref b), (1, .ref (ad 0)), (2, .ref (ad 135)), (3, .ref (ad 152)), (4, .ref (ad 153)), (5, .int x5)]) hx hb (dc tbL_law_28_k 32 rfl) hl (by decide) rfl (fun ls hl => ?_)
  refine lv_aload_n hx hb (dc tbL_law_28_k 33 rfl) rfl (lv_at hl 4 rfl) ?_
  obtain ⟨r8, q7, hf⟩ := cap_s hf
  refine l_calli (g_runV hx hb hml hown hts hK hap2 hsx2 hJ (tX7_thrown l hk2 q7 H.size) cv_X7_thrown q_t7_170 rfl rfl ⟨Nat.le_of_ble_eq_true rfl, Nat.le_of_ble_eq_true rfl⟩ hk2.1 (by simp) rfl rfl rfl hl.1 rfl (Nat.le_of_ble_eq_true rfl) (dc tbL_law_28_k 34 rfl) ⟨by have := hc.1; show _ ≤ 600002; omega, by have := hc.2; show _ ≤ 7302232; omega⟩) hJ hI hA.symm hd2 (fun H locs hJ hI => ?_)
  refine lv_iload hx hb (dc tbL_law_28_k 35 rfl) (lv_at hl 1 rfl) ?_
  refine lv_icmp_eq (tgt := 2110) hx hb (dc tbL_law_28_k 36 rfl) rfl (fun c10 => ?_) (fun c10 => ?_)
  · have hf := ite_t c10 hf
    refine lv_iload hx hb (dc tbL_law_28_k 39 rfl) (lv_at hl 1 rfl) ?_
    refine lv_if_ne (tgt := 2127) hx hb (dc tbL_law_29_k 0 rfl) rfl (fun c11 => ?_) (fun c11 => ?_)
    · have hf := ite_f c11 hf
      refine lv_goto (tgt := 2624) hx hb (dc tbL_law_29_k 10 rfl) rfl ?_
      cases hf
      refine W.widen (k := cells + 64) (n := slots + 512) (by omega) (by omega) ?_
      exact hk _ _ _ hI hJ (lv_sub hl [2, 3, 4, 5, 6, 7] rfl)
    · have hf := ite_t c11 hf
      refine lv_aload_n hx hb (dc tbL_law_29_k 1 rfl) rfl (lv_at hl 5 rfl) ?_
      refine lv_iconst (v := 0) hx hb (dc tbL_law_29_k 2 rfl) ic_0 ?_
      obtain ⟨h12, hf⟩ := chk_s hf
      refine g_lald hx hb hK hI hk1 (okb_in h12) (dc tbL_law_29_k 3 rfl) ?_
      refine lv_iload hx hb (dc tbL_law_29_k 4 rfl) (lv_at hl 0 rfl) ?_
      refine lv_i2l hx hb (dc tbL_law_29_k 5 rfl) rfl ?_
      refine W.lcmp hx hb (dc tbL_law_29_k 6 rfl) ?_
      refine lv_if_eq (tgt := 2127) hx hb (dc tbL_law_29_k 7 rfl) rfl (fun c13 => ?_) (fun c13 => ?_)
      · have hf := ite_t c13 hf
        refine lv_goto (tgt := 2624) hx hb (dc tbL_law_29_k 10 rfl) rfl ?_
        cases hf
        refine W.widen (k := cells + 64) (n := slots + 512) (by omega) (by omega) ?_
        exact hk _ _ _ hI hJ (lv_sub hl [2, 3, 4, 5, 6, 7] rfl)
      · have hf := ite_f c13 hf
        refine lv_iconst (v := 0) hx hb (dc tbL_law_29_k 8 rfl) ic_0 ?_
        cases hf
  · have hf := ite_f c10 hf
    refine lv_iconst (v := 0) hx hb (dc tbL_law_28_k 37 rfl) ic_0 ?_
    cases hf
def mlc_47 (a1 a2 a3 a4 a5 : Int32) (M N : Mem) : Option (Mem × Mem) := cal (mX6_unfold 0 M) (fun M3 r2 => cal (mX7_unfold 135 N) (fun N6 r5 => ite2 (r2 = r5) (some (M3, N6)) (none)))
set_option maxHeartbeats 4000000 in
set_option maxRecDepth 100000 in
theorem lc_47 (C : Lx p l s m args meth c b L xs G kd kd' ad) (hc : cells + 64 ≤ 600002 ∧ slots + 512 ≤ 7302232) {x5 a0 a1 a2 a3 a4 a5 : Int32} (hs : Sc xs L x5 a0 a1 a2 a3 a4 a5) {M N M' N' : Mem} (hf : mlc_47 a1 a2 a3 a4 a5 M N = some (M', N')) (hk : AtW p l e s m args below meth c G kd kd' ad b x5 M' N' Q (cells + 64) (slots + 512) 2624) : AtW p l e s m args below meth c G kd kd' ad b x5 M N Q cells slots 2130 := by
  intro H locs ls hI hJ hl
  obtain ⟨hx, hb, hml, hown, hts, hK, hap, hap2, hsx, hsx2, hnc, hst, hA, hd1, hd2, hX, hbl, hbA, hk0, hS, hk1, hk3, hk2⟩ := id C
  unfold mlc_47 at hf
  refine lv_aload_n hx hb (dc tbL_law_29_k 11 rfl) rfl (lv_at hl 1 rfl) ?_
  obtain ⟨M3, r2, q1, hf⟩ := cal_s hf
  refine l_calli (g_runV hx hb hml hown hts hK hap hsx hI (tX6_unfold l hk0 q1 H.size) cv_X6_unfold q_t3_187 rfl rfl ⟨Nat.le_of_ble_eq_true rfl, Nat.le_of_ble_eq_true rfl⟩ hk0.1 (by simp) rfl rfl rfl hl.1 rfl (Nat.le_of_ble_eq_true rfl) (dc tbL_law_29_k 12 rfl) ⟨by have := hc.1; show _ ≤ 600002; omega, by have := hc.2; show _ ≤ 7302232; omega⟩) hI hJ hA hd1 (fun H locs hI hJ => ?_)
  refine lv_aload_n hx hb (dc tbL_law_29_k 13 rfl) rfl (lv_at hl 2 rfl) ?_
  obtain ⟨N6, r5, q4, hf⟩ := cal_s hf
  refine l_calli (g_runV hx hb hml hown hts hK hap2 hsx2 hJ (tX7_unfold l hk2 q4 H.size) cv_X7_unfold q_t9_199 rfl rfl ⟨Nat.le_of_ble_eq_true rfl, Nat.le_of_ble_eq_true rfl⟩ hk2.1 (by simp) rfl rfl rfl hl.1 rfl (Nat.le_of_ble_eq_true rfl) (dc tbL_law_29_k 14 rfl) ⟨by have := hc.1; show _ ≤ 600002; omega, by have := hc.2; show _ ≤ 7302232; omega⟩) hJ hI hA.symm hd2 (fun H locs hJ hI => ?_)
  refine lv_icmp_eq (tgt := 2624) hx hb (dc tbL_law_29_k 15 rfl) rfl (fun c7 => ?_) (fun c7 => ?_)
  · have hf := ite_t c7 hf
    cases hf
    refine W.widen (k := cells + 64) (n := slots + 512) (by omega) (by omega) ?_
    exact hk _ _ _ hI hJ (lv_sub hl [0, 1, 2, 3, 4, 5] rfl)
  · have hf := ite_f c7 hf
    refine lv_iconst (v := 0) hx hb (dc tbL_law_29_k 16 rfl) ic_0 ?_
    cases hf
def mlc_48 (a1 a2 a3 a4 a5 : Int32) (M N : Mem) : Option (Mem × Mem) := calh (mL_setLeg 0 152 a1 a2 M) (fun M3 r2 => cal (mX7_setLeg 135 a1 a2 N) (fun N6 r5 => cap (mX7_thrown 135 N6) (fun r8 => ite2 (r8 = r2) (ite2 (r2 = 0) (chk (okb (0 : Int32) 1) (ite2 ((lg_cmp (rl M3 152 ((0 : Int32)).toNatClampNeg) (r5).toInt64) = 0) (some (M3, N6)) (none))) (some (M3, N6))) (none))))
set_option maxHeartbeats 4000000 in
set_option maxRecDepth 100000 in
theorem lc_48 (C : Lx p l s m args meth c b L xs G kd kd' ad) (hc : cells + 64 ≤ 600002 ∧ slots + 512 ≤ 7302232) {x5 a0 a1 a2 a3 a4 a5 : Int32} (hs : Sc xs L x5 a0 a1 a2 a3 a4 a5) {M N M' N' : Mem} (hf : mlc_48 a1 a2 a3 a4 a5 M N = some (M', N')) (hk : AtW p l e s m args below meth c G kd kd' ad b x5 M' N' Q (cells + 64) (slots + 512) 2624) : AtW p l e s m args below meth c G kd kd' ad b x5 M N Q cells slots 2143 := by
  intro H locs ls hI hJ hl
  obtain ⟨hx, hb, hml, hown, hts, hK, hap, hap2, hsx, hsx2, hnc, hst, hA, hd1, hd2, hX, hbl, hbA, hk0, hS, hk1, hk3, hk2⟩ := id C
  unfold mlc_48 at hf
  refine lv_aload_n hx hb (dc tbL_law_29_k 18 rfl) rfl (lv_at hl 1 rfl) ?_
  refine lv_aload_n hx hb (dc tbL_law_29_k 19 rfl) rfl (lv_at hl 0 rfl) ?_
  refine lv_iload hx hb (dc tbL_law_29_k 20 rfl) (lv_at hl 5 rfl) ?_
  refine lv_iconst (v := 1) hx hb (dc tbL_law_29_k 21 rfl) ic_1 ?_
  refine lv_iadd hx hb (dc tbL_law_29_k 22 rfl) ?_
  refine l_sld hx hb hX hbl hbA hI hs.2.1.1 hs.2.1.2 (dc tbL_law_29_k 23 rfl) ?_
  refine lv_aload_n hx hb (dc tbL_law_29_k 24 rfl) rfl (lv_at hl 0 rfl) ?_
  refine lv_iload hx hb (dc tbL_law_29_k 25 rfl) (lv_at hl 5 rfl) ?_
  refine lv_iconst (v := 2) hx hb (dc tbL_law_29_k 26 rfl) ic_2 ?_
  refine lv_iadd hx hb (dc tbL_law_29_k 27 rfl) ?_
  refine l_sld hx hb hX hbl hbA hI hs.2.2.1.1 hs.2.2.1.2 (dc tbL_law_29_k 28 rfl) ?_
  refine lv_aload_n hx hb (dc tbL_law_29_k 29 rfl) rfl (lv_at hl 3 rfl) ?_
  obtain ⟨M3, r2, q1, hf⟩ := calh_s hf
  refine l_callH (g_runH hx hb hml hown hts hK hap hsx hnc hI (tL_setLeg l hst hk0 hk1 q1 H.size) ch_L_setLeg q_t6_234 rfl rfl ⟨Nat.le_of_ble_eq_true rfl, Nat.le_of_ble_eq_true rfl⟩ rfl hl.1 rfl (Nat.le_of_ble_eq_true rfl) (dc tbL_law_29_k 30 rfl) ⟨by have := hc.1; show _ ≤ 600002; omega, by have := hc.2; show _ ≤ 7302232; omega⟩) hI hJ hA hd1 (fun H locs hI hJ => ?_)
  refine lv_istore (lv' := [(6, .int r2), (0, .ref b), (1, .ref (ad 0)), (2, .ref (ad 135)), (3, .ref (ad 152)), (4, .ref (ad 153)), (5, .int x5)]) hx hb (dc tbL_law_29_k 31 rfl) hl (by decide) rfl (fun ls hl => ?_)
  refine lv_aload_n hx hb (dc tbL_law_29_k 32 rfl) rfl (lv_at hl 3 rfl) ?_
  refine lv_aload_n hx hb (dc tbL_law_29_k 33 rfl) rfl (lv_at hl 1 rfl) ?_
  refine lv_iload hx hb (dc tbL_law_29_k 34 rfl) (lv_at hl 6 rfl) ?_
  refine lv_iconst (v := 1) hx hb (dc tbL_law_29_k 35 rfl) ic_1 ?_
  refine lv_iadd hx hb (dc tbL_law_29_k 36 rfl) ?_
  refine l_sld hx hb hX hbl hbA hI hs.2.1.1 hs.2.1.2 (dc tbL_law_29_k 37 rfl) ?_
  refine lv_aload_n hx hb (dc tbL_law_29_k 38 rfl) rfl (lv_at hl 1 rfl) ?_
  refine lv_iload hx hb (dc tbL_law_29_k 39 rfl) (lv_at hl 6 rfl) ?_
  refine lv_iconst (v := 2) hx hb (dc tbL_law_30_k 0 rfl) ic_2 ?_
  refine lv_iadd hx hb (dc tbL_law_30_k 1 rfl) ?_
  refine l_sld hx hb hX hbl hbA hI hs.2.2.1.1 hs.2.2.1.2 (dc tbL_law_30_k 2 rfl) ?_
  obtain ⟨N6, r5, q4, hf⟩ := cal_s hf
  refine l_calli (g_runV hx hb hml hown hts hK hap2 hsx2 hJ (tX7_setLeg l hk2 q4 H.size) cv_X7_setLeg q_t9_203 rfl rfl ⟨Nat.le_of_ble_eq_true rfl, Nat.le_of_ble_eq_true rfl⟩ hk2.1 (by simp) rfl rfl rfl hl.1 rfl (Nat.le_of_ble_eq_true rfl) (dc tbL_law_30_k 3 rfl) ⟨by have := hc.1; show _ ≤ 600002; omega, by have := hc.2; show _ ≤ 7302232; omega⟩) hJ hI hA.symm hd2 (fun H locs hJ hI => ?_)
  refine lv_istore (lv' := [(7, .int r5), (6, .int r2), (0, .ref b), (1, .ref (ad 0)), (2, .ref (ad 135)), (3, .ref (ad 152)), (4, .ref (ad 153)), (5, .int x5)]) hx hb (dc tbL_law_30_k 4 rfl) hl (by decide) rfl (fun ls hl => ?_)
  refine lv_aload_n hx hb (dc tbL_law_30_k 5 rfl) rfl (lv_at hl 4 rfl) ?_
  obtain ⟨r8, q7, hf⟩ := cap_s hf
  refine l_calli (g_runV hx hb hml hown hts hK hap2 hsx2 hJ (tX7_thrown l hk2 q7 H.size) cv_X7_thrown q_t7_170 rfl rfl ⟨Nat.le_of_ble_eq_true rfl, Nat.le_of_ble_eq_true rfl⟩ hk2.1 (by simp) rfl rfl rfl hl.1 rfl (Nat.le_of_ble_eq_true rfl) (dc tbL_law_30_k 6 rfl) ⟨by have := hc.1; show _ ≤ 600002; omega, by have := hc.2; show _ ≤ 7302232; omega⟩) hJ hI hA.symm hd2 (fun H locs hJ hI => ?_)
  refine lv_iload hx hb (dc tbL_law_30_k 7 rfl) (lv_at hl 1 rfl) ?_
  refine lv_icmp_eq (tgt := 2191) hx hb (dc tbL_law_30_k 8 rfl) rfl (fun c10 => ?_) (fun c10 => ?_)
  · have hf := ite_t c10 hf
    refine lv_iload hx hb (dc tbL_law_30_k 11 rfl) (lv_at hl 1 rfl) ?_
    refine lv_if_ne (tgt := 2208) hx hb (dc tbL_law_30_k 12 rfl) rfl (fun c11 => ?_) (fun c11 => ?_)
    · have hf := ite_f c11 hf
      refine lv_goto (tgt := 2624) hx hb (dc tbL_law_30_k 22 rfl) rfl ?_
      cases hf
      refine W.widen (k := cells + 64) (n := slots + 512) (by omega) (by omega) ?_
      exact hk _ _ _ hI hJ (lv_sub hl [2, 3, 4, 5, 6, 7] rfl)
    · have hf := ite_t c11 hf
      refine lv_aload_n hx hb (dc tbL_law_30_k 13 rfl) rfl (lv_at hl 5 rfl) ?_
      refine lv_iconst (v := 0) hx hb (dc tbL_law_30_k 14 rfl) ic_0 ?_
      obtain ⟨h12, hf⟩ := chk_s hf
      refine g_lald hx hb hK hI hk1 (okb_in h12) (dc tbL_law_30_k 15 rfl) ?_
      refine lv_iload hx hb (dc tbL_law_30_k 16 rfl) (lv_at hl 0 rfl) ?_
      refine lv_i2l hx hb (dc tbL_law_30_k 17 rfl) rfl ?_
      refine W.lcmp hx hb (dc tbL_law_30_k 18 rfl) ?_
      refine lv_if_eq (tgt := 2208) hx hb (dc tbL_law_30_k 19 rfl) rfl (fun c13 => ?_) (fun c13 => ?_)
      · have hf := ite_t c13 hf
        refine lv_goto (tgt := 2624) hx hb (dc tbL_law_30_k 22 rfl) rfl ?_
        cases hf
        refine W.widen (k := cells + 64) (n := slots + 512) (by omega) (by omega) ?_
        exact hk _ _ _ hI hJ (lv_sub hl [2, 3, 4, 5, 6, 7] rfl)
      · have hf := ite_f c13 hf
        refine lv_iconst (v := 0) hx hb (dc tbL_law_30_k 20 rfl) ic_0 ?_
        cases hf
  · have hf := ite_f c10 hf
    refine lv_iconst (v := 0) hx hb (dc tbL_law_30_k 9 rfl) ic_0 ?_
    cases hf
def mlc_49 (a1 a2 a3 a4 a5 : Int32) (M N : Mem) : Option (Mem × Mem) := ite2 (a2 = 0) (calh (mL_setDirection 0 152 a1 (0 : Int32) M) (fun M4 r3 => ite2 (a2 = 0) (cal (mX7_setDirection 135 a1 (0 : Int32) N) (fun N8 r7 => cap (mX7_thrown 135 N8) (fun r10 => ite2 (r10 = r3) (ite2 (r3 = 0) (chk (okb (0 : Int32) 1) (ite2 (r7 = 0) (ite2 ((lg_cmp (rl M4 152 ((0 : Int32)).toNatClampNeg) (0 : Int64)) = 0) (some (M4, N8)) (none)) (ite2 ((lg_cmp (rl M4 152 ((0 : Int32)).toNatClampNeg) (1 : Int64)) = 0) (some (M4, N8)) (none)))) (some (M4, N8))) (none)))) (cal (mX7_setDirection 135 a1 (1 : Int32) N) (fun N20 r19 => cap (mX7_thrown 135 N20) (fun r22 => ite2 (r22 = r3) (ite2 (r3 = 0) (chk (okb (0 : Int32) 1) (ite2 (r19 = 0) (ite2 ((lg_cmp (rl M4 152 ((0 : Int32)).toNatClampNeg) (0 : Int64)) = 0) (some (M4, N20)) (none)) (ite2 ((lg_cmp (rl M4 152 ((0 : Int32)).toNatClampNeg) (1 : Int64)) = 0) (some (M4, N20)) (none)))) (some (M4, N20))) (none)))))) (calh (mL_setDirection 0 152 a1 (1 : Int32) M) (fun M32 r31 => ite2 (a2 = 0) (cal (mX7_setDirection 135 a1 (0 : Int32) N) (fun N36 r35 => cap (mX7_thrown 135 N36) (fun r38 => ite2 (r38 = r31) (ite2 (r31 = 0) (chk (okb (0 : Int32) 1) (ite2 (r35 = 0) (ite2 ((lg_cmp (rl M32 152 ((0 : Int32)).toNatClampNeg) (0 : Int64)) = 0) (some (M32, N36)) (none)) (ite2 ((lg_cmp (rl M32 152 ((0 : Int32)).toNatClampNeg) (1 : Int64)) = 0) (some (M32, N36)) (none)))) (some (M32, N36))) (none)))) (cal (mX7_setDirection 135 a1 (1 : Int32) N) (fun N48 r47 => cap (mX7_thrown 135 N48) (fun r50 => ite2 (r50 = r31) (ite2 (r31 = 0) (chk (okb (0 : Int32) 1) (ite2 (r47 = 0) (ite2 ((lg_cmp (rl M32 152 ((0 : Int32)).toNatClampNeg) (0 : Int64)) = 0) (some (M32, N48)) (none)) (ite2 ((lg_cmp (rl M32 152 ((0 : Int32)).toNatClampNeg) (1 : Int64)) = 0) (some (M32, N48)) (none)))) (some (M32, N48))) (none))))))
set_option maxHeartbeats 4000000 in
set_option maxRecDepth 100000 in
theorem lc_49 (C : Lx p l s m args meth c b L xs G kd kd' ad) (hc : cells + 64 ≤ 600002 ∧ slots + 512 ≤ 7302232) {x5 a0 a1 a2 a3 a4 a5 : Int32} (hs : Sc xs L x5 a0 a1 a2 a3 a4 a5) {M N M' N' : Mem} (hf : mlc_49 a1 a2 a3 a4 a5 M N = some (M', N')) (hk : AtW p l e s m args below meth c G kd kd' ad b x5 M' N' Q (cells + 64) (slots + 512) 2624) : AtW p l e s m args below meth c G kd kd' ad b x5 M N Q cells slots 2211 := by
  intro H locs ls hI hJ hl
  obtain ⟨hx, hb, hml, hown, hts, hK, hap, hap2, hsx, hsx2, hnc, hst, hA, hd1, hd2, hX, hbl, hbA, hk0, hS, hk1, hk3, hk2⟩ := id C
  unfold mlc_49 at hf
  refine lv_aload_n hx hb (dc tbL_law_30_k 23 rfl) rfl (lv_at hl 1 rfl) ?_
  refine lv_aload_n hx hb (dc tbL_law_30_k 24 rfl) rfl (lv_at hl 0 rfl) ?_
  refine lv_iload hx hb (dc tbL_law_30_k 25 rfl) (lv_at hl 5 rfl) ?_
  refine lv_iconst (v := 1) hx hb (dc tbL_law_30_k 26 rfl) ic_1 ?_
  refine lv_iadd hx hb (dc tbL_law_30_k 27 rfl) ?_
  refine l_sld hx hb hX hbl hbA hI hs.2.1.1 hs.2.1.2 (dc tbL_law_30_k 28 rfl) ?_
  refine lv_aload_n hx hb (dc tbL_law_30_k 29 rfl) rfl (lv_at hl 0 rfl) ?_
  refine lv_iload hx hb (dc tbL_law_30_k 30 rfl) (lv_at hl 5 rfl) ?_
  refine lv_iconst (v := 2) hx hb (dc tbL_law_30_k 31 rfl) ic_2 ?_
  refine lv_iadd hx hb (dc tbL_law_30_k 32 rfl) ?_
  refine l_sld hx hb hX hbl hbA hI hs.2.2.1.1 hs.2.2.1.2 (dc tbL_law_30_k 33 rfl) ?_
  refine lv_if_eq (tgt := 2231) hx hb (dc tbL_law_30_k 34 rfl) rfl (fun c1 => ?_) (fun c1 => ?_)
  · have hf := ite_t c1 hf
    refine lv_iconst (v := 0) hx hb (dc tbL_law_30_k 37 rfl) ic_0 ?_
    refine lv_aload_n hx hb (dc tbL_law_30_k 38 rfl) rfl (lv_at hl 3 rfl) ?_
    obtain ⟨M4, r3, q2, hf⟩ := calh_s hf
    refine l_callH (g_runH hx hb hml hown hts hK hap hsx hnc hI (tL_setDirection l hst hk0 hk1 q2 H.size) ch_L_setDirection q_t7_4 rfl rfl ⟨Nat.le_of_ble_eq_true rfl, Nat.le_of_ble_eq_true rfl⟩ rfl hl.1 rfl (Nat.le_of_ble_eq_true rfl) (dc tbL_law_30_k 39 rfl) ⟨by have := hc.1; show _ ≤ 600002; omega, by have := hc.2; show _ ≤ 7302232; omega⟩) hI hJ hA hd1 (fun H locs hI hJ => ?_)
    refine lv_istore (lv' := [(6, .int r3), (0, .ref b), (1, .ref (ad 0)), (2, .ref (ad 135)), (3, .ref (ad 152)), (4, .ref (ad 153)), (5, .int x5)]) hx hb (dc tbL_law_31_k 0 rfl) hl (by decide) rfl (fun ls hl => ?_)
    refine lv_aload_n hx hb (dc tbL_law_31_k 1 rfl) rfl (lv_at hl 3 rfl) ?_
    refine lv_aload_n hx hb (dc tbL_law_31_k 2 rfl) rfl (lv_at hl 1 rfl) ?_
    refine lv_iload hx hb (dc tbL_law_31_k 3 rfl) (lv_at hl 6 rfl) ?_
    refine lv_iconst (v := 1) hx hb (dc tbL_law_31_k 4 rfl) ic_1 ?_
    refine lv_iadd hx hb (dc tbL_law_31_k 5 rfl) ?_
    refine l_sld hx hb hX hbl hbA hI hs.2.1.1 hs.2.1.2 (dc tbL_law_31_k 6 rfl) ?_
    refine lv_aload_n hx hb (dc tbL_law_31_k 7 rfl) rfl (lv_at hl 1 rfl) ?_
    refine lv_iload hx hb (dc tbL_law_31_k 8 rfl) (lv_at hl 6 rfl) ?_
    refine lv_iconst (v := 2) hx hb (dc tbL_law_31_k 9 rfl) ic_2 ?_
    refine lv_iadd hx hb (dc tbL_law_31_k 10 rfl) ?_
    refine l_sld hx hb hX hbl hbA hI hs.2.2.1.1 hs.2.2.1.2 (dc tbL_law_31_k 11 rfl) ?_
    refine lv_if_eq (tgt := 2258) hx hb (dc tbL_law_31_k 12 rfl) rfl (fun c5 => ?_) (fun c5 => ?_)
    · have hf := ite_t c5 hf
      refine lv_iconst (v := 0) hx hb (dc tbL_law_31_k 15 rfl) ic_0 ?_
      obtain ⟨N8, r7, q6, hf⟩ := cal_s hf
      refine l_calli (g_runV hx hb hml hown hts hK hap2 hsx2 hJ (tX7_setDirection l hk2 q6 H.size) cv_X7_setDirection q_t9_212 rfl rfl ⟨Nat.le_of_ble_eq_true rfl, Nat.le_of_ble_eq_true rfl⟩ hk2.1 (by simp) rfl rfl rfl hl.1 rfl (Nat.le_of_ble_eq_true rfl) (dc tbL_law_31_k 16 rfl) ⟨by have := hc.1; show _ ≤ 600002; omega, by have := hc.2; show _ ≤ 7302232; omega⟩) hJ hI hA.symm hd2 (fun H locs hJ hI => ?_)
      refine lv_istore (lv' := [(7, .int r7), (6, .int r3), (0, .ref b), (1, .ref (ad 0)), (2, .ref (ad 135)), (3, .ref (ad 152)), (4, .ref (ad 153)), (5, .int x5)]) hx hb (dc tbL_law_31_k 17 rfl) hl (by decide) rfl (fun ls hl => ?_)
      refine lv_aload_n hx hb (dc tbL_law_31_k 18 rfl) rfl (lv_at hl 4 rfl) ?_
      obtain ⟨r10, q9, hf⟩ := cap_s hf
      refine l_calli (g_runV hx hb hml hown hts hK hap2 hsx2 hJ (tX7_thrown l hk2 q9 H.size) cv_X7_thrown q_t7_170 rfl rfl ⟨Nat.le_of_ble_eq_true rfl, Nat.le_of_ble_eq_true rfl⟩ hk2.1 (by simp) rfl rfl rfl hl.1 rfl (Nat.le_of_ble_eq_true rfl) (dc tbL_law_31_k 19 rfl) ⟨by have := hc.1; show _ ≤ 600002; omega, by have := hc.2; show _ ≤ 7302232; omega⟩) hJ hI hA.symm hd2 (fun H locs hJ hI => ?_)
      refine lv_iload hx hb (dc tbL_law_31_k 20 rfl) (lv_at hl 1 rfl) ?_
      refine lv_icmp_eq (tgt := 2275) hx hb (dc tbL_law_31_k 21 rfl) rfl (fun c12 => ?_) (fun c12 => ?_)
      · have hf := ite_t c12 hf
        refine lv_iload hx hb (dc tbL_law_31_k 24 rfl) (lv_at hl 1 rfl) ?_
        refine lv_if_ne (tgt := 2299) hx hb (dc tbL_law_31_k 25 rfl) rfl (fun c13 => ?_) (fun c13 => ?_)
        · have hf := ite_f c13 hf
          refine lv_goto (tgt := 2624) hx hb (dc tbL_law_31_k 38 rfl) rfl ?_
          cases hf
          refine W.widen (k := cells + 64) (n := slots + 512) (by omega) (by omega) ?_
          exact hk _ _ _ hI hJ (lv_sub hl [2, 3, 4, 5, 6, 7] rfl)
        · have hf := ite_t c13 hf
          refine lv_aload_n hx hb (dc tbL_law_31_k 26 rfl) rfl (lv_at hl 5 rfl) ?_
          refine lv_iconst (v := 0) hx hb (dc tbL_law_31_k 27 rfl) ic_0 ?_
          obtain ⟨h14, hf⟩ := chk_s hf
          refine g_lald hx hb hK hI hk1 (okb_in h14) (dc tbL_law_31_k 28 rfl) ?_
          refine lv_iload hx hb (dc tbL_law_31_k 29 rfl) (lv_at hl 0 rfl) ?_
          refine lv_if_eq (tgt := 2292) hx hb (dc tbL_law_31_k 30 rfl) rfl (fun c15 => ?_) (fun c15 => ?_)
          · have hf := ite_t c15 hf
            refine lv_lconst (v := 0) hx hb (dc tbL_law_31_k 33 rfl) (by decide) ?_
            refine W.lcmp hx hb (dc tbL_law_31_k 34 rfl) ?_
            refine lv_if_eq (tgt := 2299) hx hb (dc tbL_law_31_k 35 rfl) rfl (fun c16 => ?_) (fun c16 => ?_)
            · have hf := ite_t c16 hf
              refine lv_goto (tgt := 2624) hx hb (dc tbL_law_31_k 38 rfl) rfl ?_
              cases hf
              refine W.widen (k := cells + 64) (n := slots + 512) (by omega) (by omega) ?_
              exact hk _ _ _ hI hJ (lv_sub hl [2, 3, 4, 5, 6, 7] rfl)
            · have hf := ite_f c16 hf
              refine lv_iconst (v := 0) hx hb (dc tbL_law_31_k 36 rfl) ic_0 ?_
              cases hf
          · have hf := ite_f c15 hf
            refine lv_lconst (v := 1) hx hb (dc tbL_law_31_k 31 rfl) (by decide) ?_
            refine lv_goto (tgt := 2293) hx hb (dc tbL_law_31_k 32 rfl) rfl ?_
            refine W.lcmp hx hb (dc tbL_law_31_k 34 rfl) ?_
            refine lv_if_eq (tgt := 2299) hx hb (dc tbL_law_31_k 35 rfl) rfl (fun c17 => ?_) (fun c17 => ?_)
            · have hf := ite_t c17 hf
              refine lv_goto (tgt := 2624) hx hb (dc tbL_law_31_k 38 rfl) rfl ?_
              cases hf
              refine W.widen (k := cells + 64) (n := slots + 512) (by omega) (by omega) ?_
              exact hk _ _ _ hI hJ (lv_sub hl [2, 3, 4, 5, 6, 7] rfl)
            · have hf := ite_f c17 hf
              refine lv_iconst (v := 0) hx hb (dc tbL_law_31_k 36 rfl) ic_0 ?_
              cases hf
      · have hf := ite_f c12 hf
        refine lv_iconst (v := 0) hx hb (dc tbL_law_31_k 22 rfl) ic_0 ?_
        cases hf
    · have hf := ite_f c5 hf
      refine lv_iconst (v := 1) hx hb (dc tbL_law_31_k 13 rfl) ic_1 ?_
      refine lv_goto (tgt := 2259) hx hb (dc tbL_law_31_k 14 rfl) rfl ?_
      obtain ⟨N20, r19, q18, hf⟩ := cal_s hf
      refine l_calli (g_runV hx hb hml hown hts hK hap2 hsx2 hJ (tX7_setDirection l hk2 q18 H.size) cv_X7_setDirection q_t9_212 rfl rfl ⟨Nat.le_of_ble_eq_true rfl, Nat.le_of_ble_eq_true rfl⟩ hk2.1 (by simp) rfl rfl rfl hl.1 rfl (Nat.le_of_ble_eq_true rfl) (dc tbL_law_31_k 16 rfl) ⟨by have := hc.1; show _ ≤ 600002; omega, by have := hc.2; show _ ≤ 7302232; omega⟩) hJ hI hA.symm hd2 (fun H locs hJ hI => ?_)
      refine lv_istore (lv' := [(7, .int r19), (6, .int r3), (0, .ref b), (1, .ref (ad 0)), (2, .ref (ad 135)), (3, .ref (ad 152)), (4, .ref (ad 153)), (5, .int x5)]) hx hb (dc tbL_law_31_k 17 rfl) hl (by decide) rfl (fun ls hl => ?_)
      refine lv_aload_n hx hb (dc tbL_law_31_k 18 rfl) rfl (lv_at hl 4 rfl) ?_
      obtain ⟨r22, q21, hf⟩ := cap_s hf
      refine l_calli (g_runV hx hb hml hown hts hK hap2 hsx2 hJ (tX7_thrown l hk2 q21 H.size) cv_X7_thrown q_t7_170 rfl rfl ⟨Nat.le_of_ble_eq_true rfl, Nat.le_of_ble_eq_true rfl⟩ hk2.1 (by simp) rfl rfl rfl hl.1 rfl (Nat.le_of_ble_eq_true rfl) (dc tbL_law_31_k 19 rfl) ⟨by have := hc.1; show _ ≤ 600002; omega, by have := hc.2; show _ ≤ 7302232; omega⟩) hJ hI hA.symm hd2 (fun H locs hJ hI => ?_)
      refine lv_iload hx hb (dc tbL_law_31_k 20 rfl) (lv_at hl 1 rfl) ?_
      refine lv_icmp_eq (tgt := 2275) hx hb (dc tbL_law_31_k 21 rfl) rfl (fun c24 => ?_) (fun c24 => ?_)
      · have hf := ite_t c24 hf
        refine lv_iload hx hb (dc tbL_law_31_k 24 rfl) (lv_at hl 1 rfl) ?_
        refine lv_if_ne (tgt := 2299) hx hb (dc tbL_law_31_k 25 rfl) rfl (fun c25 => ?_) (fun c25 => ?_)
        · have hf := ite_f c25 hf
          refine lv_goto (tgt := 2624) hx hb (dc tbL_law_31_k 38 rfl) rfl ?_
          cases hf
          refine W.widen (k := cells + 64) (n := slots + 512) (by omega) (by omega) ?_
          exact hk _ _ _ hI hJ (lv_sub hl [2, 3, 4, 5, 6, 7] rfl)
        · have hf := ite_t c25 hf
          refine lv_aload_n hx hb (dc tbL_law_31_k 26 rfl) rfl (lv_at hl 5 rfl) ?_
          refine lv_iconst (v := 0) hx hb (dc tbL_law_31_k 27 rfl) ic_0 ?_
          obtain ⟨h26, hf⟩ := chk_s hf
          refine g_lald hx hb hK hI hk1 (okb_in h26) (dc tbL_law_31_k 28 rfl) ?_
          refine lv_iload hx hb (dc tbL_law_31_k 29 rfl) (lv_at hl 0 rfl) ?_
          refine lv_if_eq (tgt := 2292) hx hb (dc tbL_law_31_k 30 rfl) rfl (fun c27 => ?_) (fun c27 => ?_)
          · have hf := ite_t c27 hf
            refine lv_lconst (v := 0) hx hb (dc tbL_law_31_k 33 rfl) (by decide) ?_
            refine W.lcmp hx hb (dc tbL_law_31_k 34 rfl) ?_
            refine lv_if_eq (tgt := 2299) hx hb (dc tbL_law_31_k 35 rfl) rfl (fun c28 => ?_) (fun c28 => ?_)
            · have hf := ite_t c28 hf
              refine lv_goto (tgt := 2624) hx hb (dc tbL_law_31_k 38 rfl) rfl ?_
              cases hf
              refine W.widen (k := cells + 64) (n := slots + 512) (by omega) (by omega) ?_
              exact hk _ _ _ hI hJ (lv_sub hl [2, 3, 4, 5, 6, 7] rfl)
            · have hf := ite_f c28 hf
              refine lv_iconst (v := 0) hx hb (dc tbL_law_31_k 36 rfl) ic_0 ?_
              cases hf
          · have hf := ite_f c27 hf
            refine lv_lconst (v := 1) hx hb (dc tbL_law_31_k 31 rfl) (by decide) ?_
            refine lv_goto (tgt := 2293) hx hb (dc tbL_law_31_k 32 rfl) rfl ?_
            refine W.lcmp hx hb (dc tbL_law_31_k 34 rfl) ?_
            refine lv_if_eq (tgt := 2299) hx hb (dc tbL_law_31_k 35 rfl) rfl (fun c29 => ?_) (fun c29 => ?_)
            · have hf := ite_t c29 hf
              refine lv_goto (tgt := 2624) hx hb (dc tbL_law_31_k 38 rfl) rfl ?_
              cases hf
              refine W.widen (k := cells + 64) (n := slots + 512) (by omega) (by omega) ?_
              exact hk _ _ _ hI hJ (lv_sub hl [2, 3, 4, 5, 6, 7] rfl)
            · have hf := ite_f c29 hf
              refine lv_iconst (v := 0) hx hb (dc tbL_law_31_k 36 rfl) ic_0 ?_
              cases hf
      · have hf := ite_f c24 hf
        refine lv_iconst (v := 0) hx hb (dc tbL_law_31_k 22 rfl) ic_0 ?_
        cases hf
  · have hf := ite_f c1 hf
    refine lv_iconst (v := 1) hx hb (dc tbL_law_30_k 35 rfl) ic_1 ?_
    refine lv_goto (tgt := 2232) hx hb (dc tbL_law_30_k 36 rfl) rfl ?_
    refine lv_aload_n hx hb (dc tbL_law_30_k 38 rfl) rfl (lv_at hl 3 rfl) ?_
    obtain ⟨M32, r31, q30, hf⟩ := calh_s hf
    refine l_callH (g_runH hx hb hml hown hts hK hap hsx hnc hI (tL_setDirection l hst hk0 hk1 q30 H.size) ch_L_setDirection q_t7_4 rfl rfl ⟨Nat.le_of_ble_eq_true rfl, Nat.le_of_ble_eq_true rfl⟩ rfl hl.1 rfl (Nat.le_of_ble_eq_true rfl) (dc tbL_law_30_k 39 rfl) ⟨by have := hc.1; show _ ≤ 600002; omega, by have := hc.2; show _ ≤ 7302232; omega⟩) hI hJ hA hd1 (fun H locs hI hJ => ?_)
    refine lv_istore (lv' := [(6, .int r31), (0, .ref b), (1, .ref (ad 0)), (2, .ref (ad 135)), (3, .ref (ad 152)), (4, .ref (ad 153)), (5, .int x5)]) hx hb (dc tbL_law_31_k 0 rfl) hl (by decide) rfl (fun ls hl => ?_)
    refine lv_aload_n hx hb (dc tbL_law_31_k 1 rfl) rfl (lv_at hl 3 rfl) ?_
    refine lv_aload_n hx hb (dc tbL_law_31_k 2 rfl) rfl (lv_at hl 1 rfl) ?_
    refine lv_iload hx hb (dc tbL_law_31_k 3 rfl) (lv_at hl 6 rfl) ?_
    refine lv_iconst (v := 1) hx hb (dc tbL_law_31_k 4 rfl) ic_1 ?_
    refine lv_iadd hx hb (dc tbL_law_31_k 5 rfl) ?_
    refine l_sld hx hb hX hbl hbA hI hs.2.1.1 hs.2.1.2 (dc tbL_law_31_k 6 rfl) ?_
    refine lv_aload_n hx hb (dc tbL_law_31_k 7 rfl) rfl (lv_at hl 1 rfl) ?_
    refine lv_iload hx hb (dc tbL_law_31_k 8 rfl) (lv_at hl 6 rfl) ?_
    refine lv_iconst (v := 2) hx hb (dc tbL_law_31_k 9 rfl) ic_2 ?_
    refine lv_iadd hx hb (dc tbL_law_31_k 10 rfl) ?_
    refine l_sld hx hb hX hbl hbA hI hs.2.2.1.1 hs.2.2.1.2 (dc tbL_law_31_k 11 rfl) ?_
    refine lv_if_eq (tgt := 2258) hx hb (dc tbL_law_31_k 12 rfl) rfl (fun c33 => ?_) (fun c33 => ?_)
    · have hf := ite_t c33 hf
      refine lv_iconst (v := 0) hx hb (dc tbL_law_31_k 15 rfl) ic_0 ?_
      obtain ⟨N36, r35, q34, hf⟩ := cal_s hf
      refine l_calli (g_runV hx hb hml hown hts hK hap2 hsx2 hJ (tX7_setDirection l hk2 q34 H.size) cv_X7_setDirection q_t9_212 rfl rfl ⟨Nat.le_of_ble_eq_true rfl, Nat.le_of_ble_eq_true rfl⟩ hk2.1 (by simp) rfl rfl rfl hl.1 rfl (Nat.le_of_ble_eq_true rfl) (dc tbL_law_31_k 16 rfl) ⟨by have := hc.1; show _ ≤ 600002; omega, by have := hc.2; show _ ≤ 7302232; omega⟩) hJ hI hA.symm hd2 (fun H locs hJ hI => ?_)
      refine lv_istore (lv' := [(7, .int r35), (6, .int r31), (0, .ref b), (1, .ref (ad 0)), (2, .ref (ad 135)), (3, .ref (ad 152)), (4, .ref (ad 153)), (5, .int x5)]) hx hb (dc tbL_law_31_k 17 rfl) hl (by decide) rfl (fun ls hl => ?_)
      refine lv_aload_n hx hb (dc tbL_law_31_k 18 rfl) rfl (lv_at hl 4 rfl) ?_
      obtain ⟨r38, q37, hf⟩ := cap_s hf
      refine l_calli (g_runV hx hb hml hown hts hK hap2 hsx2 hJ (tX7_thrown l hk2 q37 H.size) cv_X7_thrown q_t7_170 rfl rfl ⟨Nat.le_of_ble_eq_true rfl, Nat.le_of_ble_eq_true rfl⟩ hk2.1 (by simp) rfl rfl rfl hl.1 rfl (Nat.le_of_ble_eq_true rfl) (dc tbL_law_31_k 19 rfl) ⟨by have := hc.1; show _ ≤ 600002; omega, by have := hc.2; show _ ≤ 7302232; omega⟩) hJ hI hA.symm hd2 (fun H locs hJ hI => ?_)
      refine lv_iload hx hb (dc tbL_law_31_k 20 rfl) (lv_at hl 1 rfl) ?_
      refine lv_icmp_eq (tgt := 2275) hx hb (dc tbL_law_31_k 21 rfl) rfl (fun c40 => ?_) (fun c40 => ?_)
      · have hf := ite_t c40 hf
        refine lv_iload hx hb (dc tbL_law_31_k 24 rfl) (lv_at hl 1 rfl) ?_
        refine lv_if_ne (tgt := 2299) hx hb (dc tbL_law_31_k 25 rfl) rfl (fun c41 => ?_) (fun c41 => ?_)
        · have hf := ite_f c41 hf
          refine lv_goto (tgt := 2624) hx hb (dc tbL_law_31_k 38 rfl) rfl ?_
          cases hf
          refine W.widen (k := cells + 64) (n := slots + 512) (by omega) (by omega) ?_
          exact hk _ _ _ hI hJ (lv_sub hl [2, 3, 4, 5, 6, 7] rfl)
        · have hf := ite_t c41 hf
          refine lv_aload_n hx hb (dc tbL_law_31_k 26 rfl) rfl (lv_at hl 5 rfl) ?_
          refine lv_iconst (v := 0) hx hb (dc tbL_law_31_k 27 rfl) ic_0 ?_
          obtain ⟨h42, hf⟩ := chk_s hf
          refine g_lald hx hb hK hI hk1 (okb_in h42) (dc tbL_law_31_k 28 rfl) ?_
          refine lv_iload hx hb (dc tbL_law_31_k 29 rfl) (lv_at hl 0 rfl) ?_
          refine lv_if_eq (tgt := 2292) hx hb (dc tbL_law_31_k 30 rfl) rfl (fun c43 => ?_) (fun c43 => ?_)
          · have hf := ite_t c43 hf
            refine lv_lconst (v := 0) hx hb (dc tbL_law_31_k 33 rfl) (by decide) ?_
            refine W.lcmp hx hb (dc tbL_law_31_k 34 rfl) ?_
            refine lv_if_eq (tgt := 2299) hx hb (dc tbL_law_31_k 35 rfl) rfl (fun c44 => ?_) (fun c44 => ?_)
            · have hf := ite_t c44 hf
              refine lv_goto (tgt := 2624) hx hb (dc tbL_law_31_k 38 rfl) rfl ?_
              cases hf
              refine W.widen (k := cells + 64) (n := slots + 512) (by omega) (by omega) ?_
              exact hk _ _ _ hI hJ (lv_sub hl [2, 3, 4, 5, 6, 7] rfl)
            · have hf := ite_f c44 hf
              refine lv_iconst (v := 0) hx hb (dc tbL_law_31_k 36 rfl) ic_0 ?_
              cases hf
          · have hf := ite_f c43 hf
            refine lv_lconst (v := 1) hx hb (dc tbL_law_31_k 31 rfl) (by decide) ?_
            refine lv_goto (tgt := 2293) hx hb (dc tbL_law_31_k 32 rfl) rfl ?_
            refine W.lcmp hx hb (dc tbL_law_31_k 34 rfl) ?_
            refine lv_if_eq (tgt := 2299) hx hb (dc tbL_law_31_k 35 rfl) rfl (fun c45 => ?_) (fun c45 => ?_)
            · have hf := ite_t c45 hf
              refine lv_goto (tgt := 2624) hx hb (dc tbL_law_31_k 38 rfl) rfl ?_
              cases hf
              refine W.widen (k := cells + 64) (n := slots + 512) (by omega) (by omega) ?_
              exact hk _ _ _ hI hJ (lv_sub hl [2, 3, 4, 5, 6, 7] rfl)
            · have hf := ite_f c45 hf
              refine lv_iconst (v := 0) hx hb (dc tbL_law_31_k 36 rfl) ic_0 ?_
              cases hf
      · have hf := ite_f c40 hf
        refine lv_iconst (v := 0) hx hb (dc tbL_law_31_k 22 rfl) ic_0 ?_
        cases hf
    · have hf := ite_f c33 hf
      refine lv_iconst (v := 1) hx hb (dc tbL_law_31_k 13 rfl) ic_1 ?_
      refine lv_goto (tgt := 2259) hx hb (dc tbL_law_31_k 14 rfl) rfl ?_
      obtain ⟨N48, r47, q46, hf⟩ := cal_s hf
      refine l_calli (g_runV hx hb hml hown hts hK hap2 hsx2 hJ (tX7_setDirection l hk2 q46 H.size) cv_X7_setDirection q_t9_212 rfl rfl ⟨Nat.le_of_ble_eq_true rfl, Nat.le_of_ble_eq_true rfl⟩ hk2.1 (by simp) rfl rfl rfl hl.1 rfl (Nat.le_of_ble_eq_true rfl) (dc tbL_law_31_k 16 rfl) ⟨by have := hc.1; show _ ≤ 600002; omega, by have := hc.2; show _ ≤ 7302232; omega⟩) hJ hI hA.symm hd2 (fun H locs hJ hI => ?_)
      refine lv_istore (lv' := [(7, .int r47), (6, .int r31), (0, .ref b), (1, .ref (ad 0)), (2, .ref (ad 135)), (3, .ref (ad 152)), (4, .ref (ad 153)), (5, .int x5)]) hx hb (dc tbL_law_31_k 17 rfl) hl (by decide) rfl (fun ls hl => ?_)
      refine lv_aload_n hx hb (dc tbL_law_31_k 18 rfl) rfl (lv_at hl 4 rfl) ?_
      obtain ⟨r50, q49, hf⟩ := cap_s hf
      refine l_calli (g_runV hx hb hml hown hts hK hap2 hsx2 hJ (tX7_thrown l hk2 q49 H.size) cv_X7_thrown q_t7_170 rfl rfl ⟨Nat.le_of_ble_eq_true rfl, Nat.le_of_ble_eq_true rfl⟩ hk2.1 (by simp) rfl rfl rfl hl.1 rfl (Nat.le_of_ble_eq_true rfl) (dc tbL_law_31_k 19 rfl) ⟨by have := hc.1; show _ ≤ 600002; omega, by have := hc.2; show _ ≤ 7302232; omega⟩) hJ hI hA.symm hd2 (fun H locs hJ hI => ?_)
      refine lv_iload hx hb (dc tbL_law_31_k 20 rfl) (lv_at hl 1 rfl) ?_
      refine lv_icmp_eq (tgt := 2275) hx hb (dc tbL_law_31_k 21 rfl) rfl (fun c52 => ?_) (fun c52 => ?_)
      · have hf := ite_t c52 hf
        refine lv_iload hx hb (dc tbL_law_31_k 24 rfl) (lv_at hl 1 rfl) ?_
        refine lv_if_ne (tgt := 2299) hx hb (dc tbL_law_31_k 25 rfl) rfl (fun c53 => ?_) (fun c53 => ?_)
        · have hf := ite_f c53 hf
          refine lv_goto (tgt := 2624) hx hb (dc tbL_law_31_k 38 rfl) rfl ?_
          cases hf
          refine W.widen (k := cells + 64) (n := slots + 512) (by omega) (by omega) ?_
          exact hk _ _ _ hI hJ (lv_sub hl [2, 3, 4, 5, 6, 7] rfl)
        · have hf := ite_t c53 hf
          refine lv_aload_n hx hb (dc tbL_law_31_k 26 rfl) rfl (lv_at hl 5 rfl) ?_
          refine lv_iconst (v := 0) hx hb (dc tbL_law_31_k 27 rfl) ic_0 ?_
          obtain ⟨h54, hf⟩ := chk_s hf
          refine g_lald hx hb hK hI hk1 (okb_in h54) (dc tbL_law_31_k 28 rfl) ?_
          refine lv_iload hx hb (dc tbL_law_31_k 29 rfl) (lv_at hl 0 rfl) ?_
          refine lv_if_eq (tgt := 2292) hx hb (dc tbL_law_31_k 30 rfl) rfl (fun c55 => ?_) (fun c55 => ?_)
          · have hf := ite_t c55 hf
            refine lv_lconst (v := 0) hx hb (dc tbL_law_31_k 33 rfl) (by decide) ?_
            refine W.lcmp hx hb (dc tbL_law_31_k 34 rfl) ?_
            refine lv_if_eq (tgt := 2299) hx hb (dc tbL_law_31_k 35 rfl) rfl (fun c56 => ?_) (fun c56 => ?_)
            · have hf := ite_t c56 hf
              refine lv_goto (tgt := 2624) hx hb (dc tbL_law_31_k 38 rfl) rfl ?_
              cases hf
              refine W.widen (k := cells + 64) (n := slots + 512) (by omega) (by omega) ?_
              exact hk _ _ _ hI hJ (lv_sub hl [2, 3, 4, 5, 6, 7] rfl)
            · have hf := ite_f c56 hf
              refine lv_iconst (v := 0) hx hb (dc tbL_law_31_k 36 rfl) ic_0 ?_
              cases hf
          · have hf := ite_f c55 hf
            refine lv_lconst (v := 1) hx hb (dc tbL_law_31_k 31 rfl) (by decide) ?_
            refine lv_goto (tgt := 2293) hx hb (dc tbL_law_31_k 32 rfl) rfl ?_
            refine W.lcmp hx hb (dc tbL_law_31_k 34 rfl) ?_
            refine lv_if_eq (tgt := 2299) hx hb (dc tbL_law_31_k 35 rfl) rfl (fun c57 => ?_) (fun c57 => ?_)
            · have hf := ite_t c57 hf
              refine lv_goto (tgt := 2624) hx hb (dc tbL_law_31_k 38 rfl) rfl ?_
              cases hf
              refine W.widen (k := cells + 64) (n := slots + 512) (by omega) (by omega) ?_
              exact hk _ _ _ hI hJ (lv_sub hl [2, 3, 4, 5, 6, 7] rfl)
            · have hf := ite_f c57 hf
              refine lv_iconst (v := 0) hx hb (dc tbL_law_31_k 36 rfl) ic_0 ?_
              cases hf
      · have hf := ite_f c52 hf
        refine lv_iconst (v := 0) hx hb (dc tbL_law_31_k 22 rfl) ic_0 ?_
        cases hf
def mlc_50 (a1 a2 a3 a4 a5 : Int32) (M N : Mem) : Option (Mem × Mem) := calh (mL_setTool 0 152 a1 a2 a3 M) (fun M3 r2 => cal (mX7_setTool 135 a1 a2 a3 N) (fun N6 r5 => cap (mX7_thrown 135 N6) (fun r8 => ite2 (r8 = r2) (ite2 (r2 = 0) (chk (okb (0 : Int32) 1) (ite2 ((lg_cmp (rl M3 152 ((0 : Int32)).toNatClampNeg) (r5).toInt64) = 0) (some (M3, N6)) (none))) (some (M3, N6))) (none))))
set_option maxHeartbeats 4000000 in
set_option maxRecDepth 100000 in
theorem lc_50 (C : Lx p l s m args meth c b L xs G kd kd' ad) (hc : cells + 64 ≤ 600002 ∧ slots + 512 ≤ 7302232) {x5 a0 a1 a2 a3 a4 a5 : Int32} (hs : Sc xs L x5 a0 a1 a2 a3 a4 a5) {M N M' N' : Mem} (hf : mlc_50 a1 a2 a3 a4 a5 M N = some (M', N')) (hk : AtW p l e s m args below meth c G kd kd' ad b x5 M' N' Q (cells + 64) (slots + 512) 2624) : AtW p l e s m args below meth c G kd kd' ad b x5 M N Q cells slots 2302 := by
  intro H locs ls hI hJ hl
  obtain ⟨hx, hb, hml, hown, hts, hK, hap, hap2, hsx, hsx2, hnc, hst, hA, hd1, hd2, hX, hbl, hbA, hk0, hS, hk1, hk3, hk2⟩ := id C
  unfold mlc_50 at hf
  refine lv_aload_n hx hb (dc tbL_law_31_k 39 rfl) rfl (lv_at hl 1 rfl) ?_
  refine lv_aload_n hx hb (dc tbL_law_32_k 0 rfl) rfl (lv_at hl 0 rfl) ?_
  refine lv_iload hx hb (dc tbL_law_32_k 1 rfl) (lv_at hl 5 rfl) ?_
  refine lv_iconst (v := 1) hx hb (dc tbL_law_32_k 2 rfl) ic_1 ?_
  refine lv_iadd hx hb (dc tbL_law_32_k 3 rfl) ?_
  refine l_sld hx hb hX hbl hbA hI hs.2.1.1 hs.2.1.2 (dc tbL_law_32_k 4 rfl) ?_
  refine lv_aload_n hx hb (dc tbL_law_32_k 5 rfl) rfl (lv_at hl 0 rfl) ?_
  refine lv_iload hx hb (dc tbL_law_32_k 6 rfl) (lv_at hl 5 rfl) ?_
  refine lv_iconst (v := 2) hx hb (dc tbL_law_32_k 7 rfl) ic_2 ?_
  refine lv_iadd hx hb (dc tbL_law_32_k 8 rfl) ?_
  refine l_sld hx hb hX hbl hbA hI hs.2.2.1.1 hs.2.2.1.2 (dc tbL_law_32_k 9 rfl) ?_
  refine lv_aload_n hx hb (dc tbL_law_32_k 10 rfl) rfl (lv_at hl 0 rfl) ?_
  refine lv_iload hx hb (dc tbL_law_32_k 11 rfl) (lv_at hl 5 rfl) ?_
  refine lv_iconst (v := 3) hx hb (dc tbL_law_32_k 12 rfl) ic_3 ?_
  refine lv_iadd hx hb (dc tbL_law_32_k 13 rfl) ?_
  refine l_sld hx hb hX hbl hbA hI hs.2.2.2.1.1 hs.2.2.2.1.2 (dc tbL_law_32_k 14 rfl) ?_
  refine lv_aload_n hx hb (dc tbL_law_32_k 15 rfl) rfl (lv_at hl 3 rfl) ?_
  obtain ⟨M3, r2, q1, hf⟩ := calh_s hf
  refine l_callH (g_runH hx hb hml hown hts hK hap hsx hnc hI (tL_setTool l hst hk0 hk1 q1 H.size) ch_L_setTool q_t7_11 rfl rfl ⟨Nat.le_of_ble_eq_true rfl, Nat.le_of_ble_eq_true rfl⟩ rfl hl.1 rfl (Nat.le_of_ble_eq_true rfl) (dc tbL_law_32_k 16 rfl) ⟨by have := hc.1; show _ ≤ 600002; omega, by have := hc.2; show _ ≤ 7302232; omega⟩) hI hJ hA hd1 (fun H locs hI hJ => ?_)
  refine lv_istore (lv' := [(6, .int r2), (0, .ref b), (1, .ref (ad 0)), (2, .ref (ad 135)), (3, .ref (ad 152)), (4, .ref (ad 153)), (5, .int x5)]) hx hb (dc tbL_law_32_k 17 rfl) hl (by decide) rfl (fun ls hl => ?_)
  refine lv_aload_n hx hb (dc tbL_law_32_k 18 rfl) rfl (lv_at hl 3 rfl) ?_
  refine lv_aload_n hx hb (dc tbL_law_32_k 19 rfl) rfl (lv_at hl 1 rfl) ?_
  refine lv_iload hx hb (dc tbL_law_32_k 20 rfl) (lv_at hl 6 rfl) ?_
  refine lv_iconst (v := 1) hx hb (dc tbL_law_32_k 21 rfl) ic_1 ?_
  refine lv_iadd hx hb (dc tbL_law_32_k 22 rfl) ?_
  refine l_sld hx hb hX hbl hbA hI hs.2.1.1 hs.2.1.2 (dc tbL_law_32_k 23 rfl) ?_
  refine lv_aload_n hx hb (dc tbL_law_32_k 24 rfl) rfl (lv_at hl 1 rfl) ?_
  refine lv_iload hx hb (dc tbL_law_32_k 25 rfl) (lv_at hl 6 rfl) ?_
  refine lv_iconst (v := 2) hx hb (dc tbL_law_32_k 26 rfl) ic_2 ?_
  refine lv_iadd hx hb (dc tbL_law_32_k 27 rfl) ?_
  refine l_sld hx hb hX hbl hbA hI hs.2.2.1.1 hs.2.2.1.2 (dc tbL_law_32_k 28 rfl) ?_
  refine lv_aload_n hx hb (dc tbL_law_32_k 29 rfl) rfl (lv_at hl 1 rfl) ?_
  refine lv_iload hx hb (dc tbL_law_32_k 30 rfl) (lv_at hl 6 rfl) ?_
  refine lv_iconst (v := 3) hx hb (dc tbL_law_32_k 31 rfl) ic_3 ?_
  refine lv_iadd hx hb (dc tbL_law_32_k 32 rfl) ?_
  refine l_sld hx hb hX hbl hbA hI hs.2.2.2.1.1 hs.2.2.2.1.2 (dc tbL_law_32_k 33 rfl) ?_
  obtain ⟨N6, r5, q4, hf⟩ := cal_s hf
  refine l_calli (g_runV hx hb hml hown hts hK hap2 hsx2 hJ (tX7_setTool l hk2 q4 H.size) cv_X7_setTool q_t9_216 rfl rfl ⟨Nat.le_of_ble_eq_true rfl, Nat.le_of_ble_eq_true rfl⟩ hk2.1 (by simp) rfl rfl rfl hl.1 rfl (Nat.le_of_ble_eq_true rfl) (dc tbL_law_32_k 34 rfl) ⟨by have := hc.1; show _ ≤ 600002; omega, by have := hc.2; show _ ≤ 7302232; omega⟩) hJ hI hA.symm hd2 (fun H locs hJ hI => ?_)
  refine lv_istore (lv' := [(7, .int r5), (6, .int r2), (0, .ref b), (1, .ref (ad 0)), (2, .ref (ad 135)), (3, .ref (ad 152)), (4, .ref (ad 153)), (5, .int x5)]) hx hb (dc tbL_law_32_k 35 rfl) hl (by decide) rfl (fun ls hl => ?_)
  refine lv_aload_n hx hb (dc tbL_law_32_k 36 rfl) rfl (lv_at hl 4 rfl) ?_
  obtain ⟨r8, q7, hf⟩ := cap_s hf
  refine l_calli (g_runV hx hb hml hown hts hK hap2 hsx2 hJ (tX7_thrown l hk2 q7 H.size) cv_X7_thrown q_t7_170 rfl rfl ⟨Nat.le_of_ble_eq_true rfl, Nat.le_of_ble_eq_true rfl⟩ hk2.1 (by simp) rfl rfl rfl hl.1 rfl (Nat.le_of_ble_eq_true rfl) (dc tbL_law_32_k 37 rfl) ⟨by have := hc.1; show _ ≤ 600002; omega, by have := hc.2; show _ ≤ 7302232; omega⟩) hJ hI hA.symm hd2 (fun H locs hJ hI => ?_)
  refine lv_iload hx hb (dc tbL_law_32_k 38 rfl) (lv_at hl 1 rfl) ?_
  refine lv_icmp_eq (tgt := 2362) hx hb (dc tbL_law_32_k 39 rfl) rfl (fun c10 => ?_) (fun c10 => ?_)
  · have hf := ite_t c10 hf
    refine lv_iload hx hb (dc tbL_law_33_k 2 rfl) (lv_at hl 1 rfl) ?_
    refine lv_if_ne (tgt := 2379) hx hb (dc tbL_law_33_k 3 rfl) rfl (fun c11 => ?_) (fun c11 => ?_)
    · have hf := ite_f c11 hf
      refine lv_goto (tgt := 2624) hx hb (dc tbL_law_33_k 13 rfl) rfl ?_
      cases hf
      refine W.widen (k := cells + 64) (n := slots + 512) (by omega) (by omega) ?_
      exact hk _ _ _ hI hJ (lv_sub hl [2, 3, 4, 5, 6, 7] rfl)
    · have hf := ite_t c11 hf
      refine lv_aload_n hx hb (dc tbL_law_33_k 4 rfl) rfl (lv_at hl 5 rfl) ?_
      refine lv_iconst (v := 0) hx hb (dc tbL_law_33_k 5 rfl) ic_0 ?_
      obtain ⟨h12, hf⟩ := chk_s hf
      refine g_lald hx hb hK hI hk1 (okb_in h12) (dc tbL_law_33_k 6 rfl) ?_
      refine lv_iload hx hb (dc tbL_law_33_k 7 rfl) (lv_at hl 0 rfl) ?_
      refine lv_i2l hx hb (dc tbL_law_33_k 8 rfl) rfl ?_
      refine W.lcmp hx hb (dc tbL_law_33_k 9 rfl) ?_
      refine lv_if_eq (tgt := 2379) hx hb (dc tbL_law_33_k 10 rfl) rfl (fun c13 => ?_) (fun c13 => ?_)
      · have hf := ite_t c13 hf
        refine lv_goto (tgt := 2624) hx hb (dc tbL_law_33_k 13 rfl) rfl ?_
        cases hf
        refine W.widen (k := cells + 64) (n := slots + 512) (by omega) (by omega) ?_
        exact hk _ _ _ hI hJ (lv_sub hl [2, 3, 4, 5, 6, 7] rfl)
      · have hf := ite_f c13 hf
        refine lv_iconst (v := 0) hx hb (dc tbL_law_33_k 11 rfl) ic_0 ?_
        cases hf
  · have hf := ite_f c10 hf
    refine lv_iconst (v := 0) hx hb (dc tbL_law_33_k 0 rfl) ic_0 ?_
    cases hf
def mlc_51 (a1 a2 a3 a4 a5 : Int32) (M N : Mem) : Option (Mem × Mem) := calh (mL_setSheet 0 152 a1 a2 a3 M) (fun M3 r2 => cal (mX7_setSheet 135 a1 a2 a3 N) (fun N6 r5 => cap (mX7_thrown 135 N6) (fun r8 => ite2 (r8 = r2) (ite2 (r2 = 0) (chk (okb (0 : Int32) 1) (ite2 ((lg_cmp (rl M3 152 ((0 : Int32)).toNatClampNeg) (r5).toInt64) = 0) (some (M3, N6)) (none))) (some (M3, N6))) (none))))
set_option maxHeartbeats 4000000 in
set_option maxRecDepth 100000 in
theorem lc_51 (C : Lx p l s m args meth c b L xs G kd kd' ad) (hc : cells + 64 ≤ 600002 ∧ slots + 512 ≤ 7302232) {x5 a0 a1 a2 a3 a4 a5 : Int32} (hs : Sc xs L x5 a0 a1 a2 a3 a4 a5) {M N M' N' : Mem} (hf : mlc_51 a1 a2 a3 a4 a5 M N = some (M', N')) (hk : AtW p l e s m args below meth c G kd kd' ad b x5 M' N' Q (cells + 64) (slots + 512) 2624) : AtW p l e s m args below meth c G kd kd' ad b x5 M N Q cells slots 2382 := by
  intro H locs ls hI hJ hl
  obtain ⟨hx, hb, hml, hown, hts, hK, hap, hap2, hsx, hsx2, hnc, hst, hA, hd1, hd2, hX, hbl, hbA, hk0, hS, hk1, hk3, hk2⟩ := id C
  unfold mlc_51 at hf
  refine lv_aload_n hx hb (dc tbL_law_33_k 14 rfl) rfl (lv_at hl 1 rfl) ?_
  refine lv_aload_n hx hb (dc tbL_law_33_k 15 rfl) rfl (lv_at hl 0 rfl) ?_
  refine lv_iload hx hb (dc tbL_law_33_k 16 rfl) (lv_at hl 5 rfl) ?_
  refine lv_iconst (v := 1) hx hb (dc tbL_law_33_k 17 rfl) ic_1 ?_
  refine lv_iadd hx hb (dc tbL_law_33_k 18 rfl) ?_
  refine l_sld hx hb hX hbl hbA hI hs.2.1.1 hs.2.1.2 (dc tbL_law_33_k 19 rfl) ?_
  refine lv_aload_n hx hb (dc tbL_law_33_k 20 rfl) rfl (lv_at hl 0 rfl) ?_
  refine lv_iload hx hb (dc tbL_law_33_k 21 rfl) (lv_at hl 5 rfl) ?_
  refine lv_iconst (v := 2) hx hb (dc tbL_law_33_k 22 rfl) ic_2 ?_
  refine lv_iadd hx hb (dc tbL_law_33_k 23 rfl) ?_
  refine l_sld hx hb hX hbl hbA hI hs.2.2.1.1 hs.2.2.1.2 (dc tbL_law_33_k 24 rfl) ?_
  refine lv_aload_n hx hb (dc tbL_law_33_k 25 rfl) rfl (lv_at hl 0 rfl) ?_
  refine lv_iload hx hb (dc tbL_law_33_k 26 rfl) (lv_at hl 5 rfl) ?_
  refine lv_iconst (v := 3) hx hb (dc tbL_law_33_k 27 rfl) ic_3 ?_
  refine lv_iadd hx hb (dc tbL_law_33_k 28 rfl) ?_
  refine l_sld hx hb hX hbl hbA hI hs.2.2.2.1.1 hs.2.2.2.1.2 (dc tbL_law_33_k 29 rfl) ?_
  refine lv_aload_n hx hb (dc tbL_law_33_k 30 rfl) rfl (lv_at hl 3 rfl) ?_
  obtain ⟨M3, r2, q1, hf⟩ := calh_s hf
  refine l_callH (g_runH hx hb hml hown hts hK hap hsx hnc hI (tL_setSheet l hst hk0 hk1 q1 H.size) ch_L_setSheet q_t7_21 rfl rfl ⟨Nat.le_of_ble_eq_true rfl, Nat.le_of_ble_eq_true rfl⟩ rfl hl.1 rfl (Nat.le_of_ble_eq_true rfl) (dc tbL_law_33_k 31 rfl) ⟨by have := hc.1; show _ ≤ 600002; omega, by have := hc.2; show _ ≤ 7302232; omega⟩) hI hJ hA hd1 (fun H locs hI hJ => ?_)
  refine lv_istore (lv' := [(6, .int r2), (0, .ref b), (1, .ref (ad 0)), (2, .ref (ad 135)), (3, .ref (ad 152)), (4, .ref (ad 153)), (5, .int x5)]) hx hb (dc tbL_law_33_k 32 rfl) hl (by decide) rfl (fun ls hl => ?_)
  refine lv_aload_n hx hb (dc tbL_law_33_k 33 rfl) rfl (lv_at hl 3 rfl) ?_
  refine lv_aload_n hx hb (dc tbL_law_33_k 34 rfl) rfl (lv_at hl 1 rfl) ?_
  refine lv_iload hx hb (dc tbL_law_33_k 35 rfl) (lv_at hl 6 rfl) ?_
  refine lv_iconst (v := 1) hx hb (dc tbL_law_33_k 36 rfl) ic_1 ?_
  refine lv_iadd hx hb (dc tbL_law_33_k 37 rfl) ?_
  refine l_sld hx hb hX hbl hbA hI hs.2.1.1 hs.2.1.2 (dc tbL_law_33_k 38 rfl) ?_
  refine lv_aload_n hx hb (dc tbL_law_33_k 39 rfl) rfl (lv_at hl 1 rfl) ?_
  refine lv_iload hx hb (dc tbL_law_34_k 0 rfl) (lv_at hl 6 rfl) ?_
  refine lv_iconst (v := 2) hx hb (dc tbL_law_34_k 1 rfl) ic_2 ?_
  refine lv_iadd hx hb (dc tbL_law_34_k 2 rfl) ?_
  refine l_sld hx hb hX hbl hbA hI hs.2.2.1.1 hs.2.2.1.2 (dc tbL_law_34_k 3 rfl) ?_
  refine lv_aload_n hx hb (dc tbL_law_34_k 4 rfl) rfl (lv_at hl 1 rfl) ?_
  refine lv_iload hx hb (dc tbL_law_34_k 5 rfl) (lv_at hl 6 rfl) ?_
  refine lv_iconst (v := 3) hx hb (dc tbL_law_34_k 6 rfl) ic_3 ?_
  refine lv_iadd hx hb (dc tbL_law_34_k 7 rfl) ?_
  refine l_sld hx hb hX hbl hbA hI hs.2.2.2.1.1 hs.2.2.2.1.2 (dc tbL_law_34_k 8 rfl) ?_
  obtain ⟨N6, r5, q4, hf⟩ := cal_s hf
  refine l_calli (g_runV hx hb hml hown hts hK hap2 hsx2 hJ (tX7_setSheet l hk2 q4 H.size) cv_X7_setSheet q_t9_223 rfl rfl ⟨Nat.le_of_ble_eq_true rfl, Nat.le_of_ble_eq_true rfl⟩ hk2.1 (by simp) rfl rfl rfl hl.1 rfl (Nat.le_of_ble_eq_true rfl) (dc tbL_law_34_k 9 rfl) ⟨by have := hc.1; show _ ≤ 600002; omega, by have := hc.2; show _ ≤ 7302232; omega⟩) hJ hI hA.symm hd2 (fun H locs hJ hI => ?_)
  refine lv_istore (lv' := [(7, .int r5), (6, .int r2), (0, .ref b), (1, .ref (ad 0)), (2, .ref (ad 135)), (3, .ref (ad 152)), (4, .ref (ad 153)), (5, .int x5)]) hx hb (dc tbL_law_34_k 10 rfl) hl (by decide) rfl (fun ls hl => ?_)
  refine lv_aload_n hx hb (dc tbL_law_34_k 11 rfl) rfl (lv_at hl 4 rfl) ?_
  obtain ⟨r8, q7, hf⟩ := cap_s hf
  refine l_calli (g_runV hx hb hml hown hts hK hap2 hsx2 hJ (tX7_thrown l hk2 q7 H.size) cv_X7_thrown q_t7_170 rfl rfl ⟨Nat.le_of_ble_eq_true rfl, Nat.le_of_ble_eq_true rfl⟩ hk2.1 (by simp) rfl rfl rfl hl.1 rfl (Nat.le_of_ble_eq_true rfl) (dc tbL_law_34_k 12 rfl) ⟨by have := hc.1; show _ ≤ 600002; omega, by have := hc.2; show _ ≤ 7302232; omega⟩) hJ hI hA.symm hd2 (fun H locs hJ hI => ?_)
  refine lv_iload hx hb (dc tbL_law_34_k 13 rfl) (lv_at hl 1 rfl) ?_
  refine lv_icmp_eq (tgt := 2442) hx hb (dc tbL_law_34_k 14 rfl) rfl (fun c10 => ?_) (fun c10 => ?_)
  · have hf := ite_t c10 hf
    refine lv_iload hx hb (dc tbL_law_34_k 17 rfl) (lv_at hl 1 rfl) ?_
    refine lv_if_ne (tgt := 2459) hx hb (dc tbL_law_34_k 18 rfl) rfl (fun c11 => ?_) (fun c11 => ?_)
    · have hf := ite_f c11 hf
      refine lv_goto (tgt := 2624) hx hb (dc tbL_law_34_k 28 rfl) rfl ?_
      cases hf
      refine W.widen (k := cells + 64) (n := slots + 512) (by omega) (by omega) ?_
      exact hk _ _ _ hI hJ (lv_sub hl [2, 3, 4, 5, 6, 7] rfl)
    · have hf := ite_t c11 hf
      refine lv_aload_n hx hb (dc tbL_law_34_k 19 rfl) rfl (lv_at hl 5 rfl) ?_
      refine lv_iconst (v := 0) hx hb (dc tbL_law_34_k 20 rfl) ic_0 ?_
      obtain ⟨h12, hf⟩ := chk_s hf
      refine g_lald hx hb hK hI hk1 (okb_in h12) (dc tbL_law_34_k 21 rfl) ?_
      refine lv_iload hx hb (dc tbL_law_34_k 22 rfl) (lv_at hl 0 rfl) ?_
      refine lv_i2l hx hb (dc tbL_law_34_k 23 rfl) rfl ?_
      refine W.lcmp hx hb (dc tbL_law_34_k 24 rfl) ?_
      refine lv_if_eq (tgt := 2459) hx hb (dc tbL_law_34_k 25 rfl) rfl (fun c13 => ?_) (fun c13 => ?_)
      · have hf := ite_t c13 hf
        refine lv_goto (tgt := 2624) hx hb (dc tbL_law_34_k 28 rfl) rfl ?_
        cases hf
        refine W.widen (k := cells + 64) (n := slots + 512) (by omega) (by omega) ?_
        exact hk _ _ _ hI hJ (lv_sub hl [2, 3, 4, 5, 6, 7] rfl)
      · have hf := ite_f c13 hf
        refine lv_iconst (v := 0) hx hb (dc tbL_law_34_k 26 rfl) ic_0 ?_
        cases hf
  · have hf := ite_f c10 hf
    refine lv_iconst (v := 0) hx hb (dc tbL_law_34_k 15 rfl) ic_0 ?_
    cases hf
def mlc_52 (a1 a2 a3 a4 a5 : Int32) (M N : Mem) : Option (Mem × Mem) := calh (mL_setCost 0 152 a1 a2 a3 M) (fun M3 r2 => cal (mX7_setCost 135 a1 a2 a3 N) (fun N6 r5 => cap (mX7_thrown 135 N6) (fun r8 => ite2 (r8 = r2) (ite2 (r2 = 0) (chk (okb (0 : Int32) 1) (ite2 ((lg_cmp (rl M3 152 ((0 : Int32)).toNatClampNeg) (r5).toInt64) = 0) (some (M3, N6)) (none))) (some (M3, N6))) (none))))
set_option maxHeartbeats 4000000 in
set_option maxRecDepth 100000 in
theorem lc_52 (C : Lx p l s m args meth c b L xs G kd kd' ad) (hc : cells + 64 ≤ 600002 ∧ slots + 512 ≤ 7302232) {x5 a0 a1 a2 a3 a4 a5 : Int32} (hs : Sc xs L x5 a0 a1 a2 a3 a4 a5) {M N M' N' : Mem} (hf : mlc_52 a1 a2 a3 a4 a5 M N = some (M', N')) (hk : AtW p l e s m args below meth c G kd kd' ad b x5 M' N' Q (cells + 64) (slots + 512) 2624) : AtW p l e s m args below meth c G kd kd' ad b x5 M N Q cells slots 2462 := by
  intro H locs ls hI hJ hl
  obtain ⟨hx, hb, hml, hown, hts, hK, hap, hap2, hsx, hsx2, hnc, hst, hA, hd1, hd2, hX, hbl, hbA, hk0, hS, hk1, hk3, hk2⟩ := id C
  unfold mlc_52 at hf
  refine lv_aload_n hx hb (dc tbL_law_34_k 29 rfl) rfl (lv_at hl 1 rfl) ?_
  refine lv_aload_n hx hb (dc tbL_law_34_k 30 rfl) rfl (lv_at hl 0 rfl) ?_
  refine lv_iload hx hb (dc tbL_law_34_k 31 rfl) (lv_at hl 5 rfl) ?_
  refine lv_iconst (v := 1) hx hb (dc tbL_law_34_k 32 rfl) ic_1 ?_
  refine lv_iadd hx hb (dc tbL_law_34_k 33 rfl) ?_
  refine l_sld hx hb hX hbl hbA hI hs.2.1.1 hs.2.1.2 (dc tbL_law_34_k 34 rfl) ?_
  refine lv_aload_n hx hb (dc tbL_law_34_k 35 rfl) rfl (lv_at hl 0 rfl) ?_
  refine lv_iload hx hb (dc tbL_law_34_k 36 rfl) (lv_at hl 5 rfl) ?_
  refine lv_iconst (v := 2) hx hb (dc tbL_law_34_k 37 rfl) ic_2 ?_
  refine lv_iadd hx hb (dc tbL_law_34_k 38 rfl) ?_
  refine l_sld hx hb hX hbl hbA hI hs.2.2.1.1 hs.2.2.1.2 (dc tbL_law_34_k 39 rfl) ?_
  refine lv_aload_n hx hb (dc tbL_law_35_k 0 rfl) rfl (lv_at hl 0 rfl) ?_
  refine lv_iload hx hb (dc tbL_law_35_k 1 rfl) (lv_at hl 5 rfl) ?_
  refine lv_iconst (v := 3) hx hb (dc tbL_law_35_k 2 rfl) ic_3 ?_
  refine lv_iadd hx hb (dc tbL_law_35_k 3 rfl) ?_
  refine l_sld hx hb hX hbl hbA hI hs.2.2.2.1.1 hs.2.2.2.1.2 (dc tbL_law_35_k 4 rfl) ?_
  refine lv_aload_n hx hb (dc tbL_law_35_k 5 rfl) rfl (lv_at hl 3 rfl) ?_
  obtain ⟨M3, r2, q1, hf⟩ := calh_s hf
  refine l_callH (g_runH hx hb hml hown hts hK hap hsx hnc hI (tL_setCost l hst hk0 hk1 q1 H.size) ch_L_setCost q_t7_31 rfl rfl ⟨Nat.le_of_ble_eq_true rfl, Nat.le_of_ble_eq_true rfl⟩ rfl hl.1 rfl (Nat.le_of_ble_eq_true rfl) (dc tbL_law_35_k 6 rfl) ⟨by have := hc.1; show _ ≤ 600002; omega, by have := hc.2; show _ ≤ 7302232; omega⟩) hI hJ hA hd1 (fun H locs hI hJ => ?_)
  refine lv_istore (lv' := [(6, .int r2), (0, .ref b), (1, .ref (ad 0)), (2, .ref (ad 135)), (3, .ref (ad 152)), (4, .ref (ad 153)), (5, .int x5)]) hx hb (dc tbL_law_35_k 7 rfl) hl (by decide) rfl (fun ls hl => ?_)
  refine lv_aload_n hx hb (dc tbL_law_35_k 8 rfl) rfl (lv_at hl 3 rfl) ?_
  refine lv_aload_n hx hb (dc tbL_law_35_k 9 rfl) rfl (lv_at hl 1 rfl) ?_
  refine lv_iload hx hb (dc tbL_law_35_k 10 rfl) (lv_at hl 6 rfl) ?_
  refine lv_iconst (v := 1) hx hb (dc tbL_law_35_k 11 rfl) ic_1 ?_
  refine lv_iadd hx hb (dc tbL_law_35_k 12 rfl) ?_
  refine l_sld hx hb hX hbl hbA hI hs.2.1.1 hs.2.1.2 (dc tbL_law_35_k 13 rfl) ?_
  refine lv_aload_n hx hb (dc tbL_law_35_k 14 rfl) rfl (lv_at hl 1 rfl) ?_
  refine lv_iload hx hb (dc tbL_law_35_k 15 rfl) (lv_at hl 6 rfl) ?_
  refine lv_iconst (v := 2) hx hb (dc tbL_law_35_k 16 rfl) ic_2 ?_
  refine lv_iadd hx hb (dc tbL_law_35_k 17 rfl) ?_
  refine l_sld hx hb hX hbl hbA hI hs.2.2.1.1 hs.2.2.1.2 (dc tbL_law_35_k 18 rfl) ?_
  refine lv_aload_n hx hb (dc tbL_law_35_k 19 rfl) rfl (lv_at hl 1 rfl) ?_
  refine lv_iload hx hb (dc tbL_law_35_k 20 rfl) (lv_at hl 6 rfl) ?_
  refine lv_iconst (v := 3) hx hb (dc tbL_law_35_k 21 rfl) ic_3 ?_
  refine lv_iadd hx hb (dc tbL_law_35_k 22 rfl) ?_
  refine l_sld hx hb hX hbl hbA hI hs.2.2.2.1.1 hs.2.2.2.1.2 (dc tbL_law_35_k 23 rfl) ?_
  obtain ⟨N6, r5, q4, hf⟩ := cal_s hf
  refine l_calli (g_runV hx hb hml hown hts hK hap2 hsx2 hJ (tX7_setCost l hk2 q4 H.size) cv_X7_setCost q_t9_230 rfl rfl ⟨Nat.le_of_ble_eq_true rfl, Nat.le_of_ble_eq_true rfl⟩ hk2.1 (by simp) rfl rfl rfl hl.1 rfl (Nat.le_of_ble_eq_true rfl) (dc tbL_law_35_k 24 rfl) ⟨by have := hc.1; show _ ≤ 600002; omega, by have := hc.2; show _ ≤ 7302232; omega⟩) hJ hI hA.symm hd2 (fun H locs hJ hI => ?_)
  refine lv_istore (lv' := [(7, .int r5), (6, .int r2), (0, .ref b), (1, .ref (ad 0)), (2, .ref (ad 135)), (3, .ref (ad 152)), (4, .ref (ad 153)), (5, .int x5)]) hx hb (dc tbL_law_35_k 25 rfl) hl (by decide) rfl (fun ls hl => ?_)
  refine lv_aload_n hx hb (dc tbL_law_35_k 26 rfl) rfl (lv_at hl 4 rfl) ?_
  obtain ⟨r8, q7, hf⟩ := cap_s hf
  refine l_calli (g_runV hx hb hml hown hts hK hap2 hsx2 hJ (tX7_thrown l hk2 q7 H.size) cv_X7_thrown q_t7_170 rfl rfl ⟨Nat.le_of_ble_eq_true rfl, Nat.le_of_ble_eq_true rfl⟩ hk2.1 (by simp) rfl rfl rfl hl.1 rfl (Nat.le_of_ble_eq_true rfl) (dc tbL_law_35_k 27 rfl) ⟨by have := hc.1; show _ ≤ 600002; omega, by have := hc.2; show _ ≤ 7302232; omega⟩) hJ hI hA.symm hd2 (fun H locs hJ hI => ?_)
  refine lv_iload hx hb (dc tbL_law_35_k 28 rfl) (lv_at hl 1 rfl) ?_
  refine lv_icmp_eq (tgt := 2522) hx hb (dc tbL_law_35_k 29 rfl) rfl (fun c10 => ?_) (fun c10 => ?_)
  · have hf := ite_t c10 hf
    refine lv_iload hx hb (dc tbL_law_35_k 32 rfl) (lv_at hl 1 rfl) ?_
    refine lv_if_ne (tgt := 2539) hx hb (dc tbL_law_35_k 33 rfl) rfl (fun c11 => ?_) (fun c11 => ?_)
    · have hf := ite_f c11 hf
      refine lv_goto (tgt := 2624) hx hb (dc tbL_law_36_k 3 rfl) rfl ?_
      cases hf
      refine W.widen (k := cells + 64) (n := slots + 512) (by omega) (by omega) ?_
      exact hk _ _ _ hI hJ (lv_sub hl [2, 3, 4, 5, 6, 7] rfl)
    · have hf := ite_t c11 hf
      refine lv_aload_n hx hb (dc tbL_law_35_k 34 rfl) rfl (lv_at hl 5 rfl) ?_
      refine lv_iconst (v := 0) hx hb (dc tbL_law_35_k 35 rfl) ic_0 ?_
      obtain ⟨h12, hf⟩ := chk_s hf
      refine g_lald hx hb hK hI hk1 (okb_in h12) (dc tbL_law_35_k 36 rfl) ?_
      refine lv_iload hx hb (dc tbL_law_35_k 37 rfl) (lv_at hl 0 rfl) ?_
      refine lv_i2l hx hb (dc tbL_law_35_k 38 rfl) rfl ?_
      refine W.lcmp hx hb (dc tbL_law_35_k 39 rfl) ?_
      refine lv_if_eq (tgt := 2539) hx hb (dc tbL_law_36_k 0 rfl) rfl (fun c13 => ?_) (fun c13 => ?_)
      · have hf := ite_t c13 hf
        refine lv_goto (tgt := 2624) hx hb (dc tbL_law_36_k 3 rfl) rfl ?_
        cases hf
        refine W.widen (k := cells + 64) (n := slots + 512) (by omega) (by omega) ?_
        exact hk _ _ _ hI hJ (lv_sub hl [2, 3, 4, 5, 6, 7] rfl)
      · have hf := ite_f c13 hf
        refine lv_iconst (v := 0) hx hb (dc tbL_law_36_k 1 rfl) ic_0 ?_
        cases hf
  · have hf := ite_f c10 hf
    refine lv_iconst (v := 0) hx hb (dc tbL_law_35_k 30 rfl) ic_0 ?_
    cases hf
def mlc_53 (a1 a2 a3 a4 a5 : Int32) (M N : Mem) : Option (Mem × Mem) := cal (mX6_undo 0 M) (fun M3 r2 => cal (mX7_undo 135 N) (fun N6 r5 => ite2 (r2 = r5) (some (M3, N6)) (none)))
set_option maxHeartbeats 4000000 in
set_option maxRecDepth 100000 in
theorem lc_53 (C : Lx p l s m args meth c b L xs G kd kd' ad) (hc : cells + 64 ≤ 600002 ∧ slots + 512 ≤ 7302232) {x5 a0 a1 a2 a3 a4 a5 : Int32} (hs : Sc xs L x5 a0 a1 a2 a3 a4 a5) {M N M' N' : Mem} (hf : mlc_53 a1 a2 a3 a4 a5 M N = some (M', N')) (hk : AtW p l e s m args below meth c G kd kd' ad b x5 M' N' Q (cells + 64) (slots + 512) 2624) : AtW p l e s m args below meth c G kd kd' ad b x5 M N Q cells slots 2542 := by
  intro H locs ls hI hJ hl
  obtain ⟨hx, hb, hml, hown, hts, hK, hap, hap2, hsx, hsx2, hnc, hst, hA, hd1, hd2, hX, hbl, hbA, hk0, hS, hk1, hk3, hk2⟩ := id C
  unfold mlc_53 at hf
  refine lv_aload_n hx hb (dc tbL_law_36_k 4 rfl) rfl (lv_at hl 1 rfl) ?_
  obtain ⟨M3, r2, q1, hf⟩ := cal_s hf
  refine l_calli (g_runV hx hb hml hown hts hK hap hsx hI (tX6_undo l hk0 q1 H.size) cv_X6_undo q_t3_197 rfl rfl ⟨Nat.le_of_ble_eq_true rfl, Nat.le_of_ble_eq_true rfl⟩ hk0.1 (by simp) rfl rfl rfl hl.1 rfl (Nat.le_of_ble_eq_true rfl) (dc tbL_law_36_k 5 rfl) ⟨by have := hc.1; show _ ≤ 600002; omega, by have := hc.2; show _ ≤ 7302232; omega⟩) hI hJ hA hd1 (fun H locs hI hJ => ?_)
  refine lv_aload_n hx hb (dc tbL_law_36_k 6 rfl) rfl (lv_at hl 2 rfl) ?_
  obtain ⟨N6, r5, q4, hf⟩ := cal_s hf
  refine l_calli (g_runV hx hb hml hown hts hK hap2 hsx2 hJ (tX7_undo l hk2 q4 H.size) cv_X7_undo q_t7_174 rfl rfl ⟨Nat.le_of_ble_eq_true rfl, Nat.le_of_ble_eq_true rfl⟩ hk2.1 (by simp) rfl rfl rfl hl.1 rfl (Nat.le_of_ble_eq_true rfl) (dc tbL_law_36_k 7 rfl) ⟨by have := hc.1; show _ ≤ 600002; omega, by have := hc.2; show _ ≤ 7302232; omega⟩) hJ hI hA.symm hd2 (fun H locs hJ hI => ?_)
  refine lv_icmp_eq (tgt := 2624) hx hb (dc tbL_law_36_k 8 rfl) rfl (fun c7 => ?_) (fun c7 => ?_)
  · have hf := ite_t c7 hf
    cases hf
    refine W.widen (k := cells + 64) (n := slots + 512) (by omega) (by omega) ?_
    exact hk _ _ _ hI hJ (lv_sub hl [0, 1, 2, 3, 4, 5] rfl)
  · have hf := ite_f c7 hf
    refine lv_iconst (v := 0) hx hb (dc tbL_law_36_k 9 rfl) ic_0 ?_
    cases hf
def mlc_54 (a1 a2 a3 a4 a5 : Int32) (M N : Mem) : Option (Mem × Mem) := cal (mX6_write 0 M) (fun M3 r2 => cal (mX7_write 135 N) (fun N6 r5 => ite2 (r2 = r5) (some (M3, N6)) (none)))
set_option maxHeartbeats 4000000 in
set_option maxRecDepth 100000 in
theorem lc_54 (C : Lx p l s m args meth c b L xs G kd kd' ad) (hc : cells + 64 ≤ 600002 ∧ slots + 512 ≤ 7302232) {x5 a0 a1 a2 a3 a4 a5 : Int32} (hs : Sc xs L x5 a0 a1 a2 a3 a4 a5) {M N M' N' : Mem} (hf : mlc_54 a1 a2 a3 a4 a5 M N = some (M', N')) (hk : AtW p l e s m args below meth c G kd kd' ad b x5 M' N' Q (cells + 64) (slots + 512) 2624) : AtW p l e s m args below meth c G kd kd' ad b x5 M N Q cells slots 2555 := by
  intro H locs ls hI hJ hl
  obtain ⟨hx, hb, hml, hown, hts, hK, hap, hap2, hsx, hsx2, hnc, hst, hA, hd1, hd2, hX, hbl, hbA, hk0, hS, hk1, hk3, hk2⟩ := id C
  unfold mlc_54 at hf
  refine lv_aload_n hx hb (dc tbL_law_36_k 11 rfl) rfl (lv_at hl 1 rfl) ?_
  obtain ⟨M3, r2, q1, hf⟩ := cal_s hf
  refine l_calli (g_runV hx hb hml hown hts hK hap hsx hI (tX6_write l hk0 hS q1 H.size) cv_X6_write q_t3_205 rfl rfl ⟨Nat.le_of_ble_eq_true rfl, Nat.le_of_ble_eq_true rfl⟩ hk0.1 (by simp) rfl rfl rfl hl.1 rfl (Nat.le_of_ble_eq_true rfl) (dc tbL_law_36_k 12 rfl) ⟨by have := hc.1; show _ ≤ 600002; omega, by have := hc.2; show _ ≤ 7302232; omega⟩) hI hJ hA hd1 (fun H locs hI hJ => ?_)
  refine lv_aload_n hx hb (dc tbL_law_36_k 13 rfl) rfl (lv_at hl 2 rfl) ?_
  obtain ⟨N6, r5, q4, hf⟩ := cal_s hf
  refine l_calli (g_runV hx hb hml hown hts hK hap2 hsx2 hJ (tX7_write l hk2 q4 H.size) cv_X7_write q_t9_235 rfl rfl ⟨Nat.le_of_ble_eq_true rfl, Nat.le_of_ble_eq_true rfl⟩ hk2.1 (by simp) rfl rfl rfl hl.1 rfl (Nat.le_of_ble_eq_true rfl) (dc tbL_law_36_k 14 rfl) ⟨by have := hc.1; show _ ≤ 600002; omega, by have := hc.2; show _ ≤ 7302232; omega⟩) hJ hI hA.symm hd2 (fun H locs hJ hI => ?_)
  refine lv_icmp_eq (tgt := 2624) hx hb (dc tbL_law_36_k 15 rfl) rfl (fun c7 => ?_) (fun c7 => ?_)
  · have hf := ite_t c7 hf
    cases hf
    refine W.widen (k := cells + 64) (n := slots + 512) (by omega) (by omega) ?_
    exact hk _ _ _ hI hJ (lv_sub hl [0, 1, 2, 3, 4, 5] rfl)
  · have hf := ite_f c7 hf
    refine lv_iconst (v := 0) hx hb (dc tbL_law_36_k 16 rfl) ic_0 ?_
    cases hf
def mlc_55 (a1 a2 a3 a4 a5 : Int32) (M N : Mem) : Option (Mem × Mem) := calh (mL_written 0 152 a1 M) (fun M3 r2 => cal (mX7_written 135 a1 N) (fun N6 r5 => cap (mX7_thrown 135 N6) (fun r8 => ite2 (r8 = r2) (ite2 (r2 = 0) (chk (okb (0 : Int32) 1) (ite2 ((lg_cmp (rl M3 152 ((0 : Int32)).toNatClampNeg) (r5).toInt64) = 0) (some (M3, N6)) (none))) (some (M3, N6))) (none))))
set_option maxHeartbeats 4000000 in
set_option maxRecDepth 100000 in
theorem lc_55 (C : Lx p l s m args meth c b L xs G kd kd' ad) (hc : cells + 64 ≤ 600002 ∧ slots + 512 ≤ 7302232) {x5 a0 a1 a2 a3 a4 a5 : Int32} (hs : Sc xs L x5 a0 a1 a2 a3 a4 a5) {M N M' N' : Mem} (hf : mlc_55 a1 a2 a3 a4 a5 M N = some (M', N')) (hk : AtW p l e s m args below meth c G kd kd' ad b x5 M' N' Q (cells + 64) (slots + 512) 2624) : AtW p l e s m args below meth c G kd kd' ad b x5 M N Q cells slots 2568 := by
  intro H locs ls hI hJ hl
  obtain ⟨hx, hb, hml, hown, hts, hK, hap, hap2, hsx, hsx2, hnc, hst, hA, hd1, hd2, hX, hbl, hbA, hk0, hS, hk1, hk3, hk2⟩ := id C
  unfold mlc_55 at hf
  refine lv_aload_n hx hb (dc tbL_law_36_k 18 rfl) rfl (lv_at hl 1 rfl) ?_
  refine lv_aload_n hx hb (dc tbL_law_36_k 19 rfl) rfl (lv_at hl 0 rfl) ?_
  refine lv_iload hx hb (dc tbL_law_36_k 20 rfl) (lv_at hl 5 rfl) ?_
  refine lv_iconst (v := 1) hx hb (dc tbL_law_36_k 21 rfl) ic_1 ?_
  refine lv_iadd hx hb (dc tbL_law_36_k 22 rfl) ?_
  refine l_sld hx hb hX hbl hbA hI hs.2.1.1 hs.2.1.2 (dc tbL_law_36_k 23 rfl) ?_
  refine lv_aload_n hx hb (dc tbL_law_36_k 24 rfl) rfl (lv_at hl 3 rfl) ?_
  obtain ⟨M3, r2, q1, hf⟩ := calh_s hf
  refine l_callH (g_runH hx hb hml hown hts hK hap hsx hnc hI (tL_written l hst hk0 hk1 hS q1 H.size) ch_L_written q_t7_41 rfl rfl ⟨Nat.le_of_ble_eq_true rfl, Nat.le_of_ble_eq_true rfl⟩ rfl hl.1 rfl (Nat.le_of_ble_eq_true rfl) (dc tbL_law_36_k 25 rfl) ⟨by have := hc.1; show _ ≤ 600002; omega, by have := hc.2; show _ ≤ 7302232; omega⟩) hI hJ hA hd1 (fun H locs hI hJ => ?_)
  refine lv_istore (lv' := [(6, .int r2), (0, .ref b), (1, .ref (ad 0)), (2, .ref (ad 135)), (3, .ref (ad 152)), (4, .ref (ad 153)), (5, .int x5)]) hx hb (dc tbL_law_36_k 26 rfl) hl (by decide) rfl (fun ls hl => ?_)
  refine lv_aload_n hx hb (dc tbL_law_36_k 27 rfl) rfl (lv_at hl 3 rfl) ?_
  refine lv_aload_n hx hb (dc tbL_law_36_k 28 rfl) rfl (lv_at hl 1 rfl) ?_
  refine lv_iload hx hb (dc tbL_law_36_k 29 rfl) (lv_at hl 6 rfl) ?_
  refine lv_iconst (v := 1) hx hb (dc tbL_law_36_k 30 rfl) ic_1 ?_
  refine lv_iadd hx hb (dc tbL_law_36_k 31 rfl) ?_
  refine l_sld hx hb hX hbl hbA hI hs.2.1.1 hs.2.1.2 (dc tbL_law_36_k 32 rfl) ?_
  obtain ⟨N6, r5, q4, hf⟩ := cal_s hf
  refine l_calli (g_runV hx hb hml hown hts hK hap2 hsx2 hJ (tX7_written l hk2 q4 H.size) cv_X7_written q_t10_16 rfl rfl ⟨Nat.le_of_ble_eq_true rfl, Nat.le_of_ble_eq_true rfl⟩ hk2.1 (by simp) rfl rfl rfl hl.1 rfl (Nat.le_of_ble_eq_true rfl) (dc tbL_law_36_k 33 rfl) ⟨by have := hc.1; show _ ≤ 600002; omega, by have := hc.2; show _ ≤ 7302232; omega⟩) hJ hI hA.symm hd2 (fun H locs hJ hI => ?_)
  refine lv_istore (lv' := [(7, .int r5), (6, .int r2), (0, .ref b), (1, .ref (ad 0)), (2, .ref (ad 135)), (3, .ref (ad 152)), (4, .ref (ad 153)), (5, .int x5)]) hx hb (dc tbL_law_36_k 34 rfl) hl (by decide) rfl (fun ls hl => ?_)
  refine lv_aload_n hx hb (dc tbL_law_36_k 35 rfl) rfl (lv_at hl 4 rfl) ?_
  obtain ⟨r8, q7, hf⟩ := cap_s hf
  refine l_calli (g_runV hx hb hml hown hts hK hap2 hsx2 hJ (tX7_thrown l hk2 q7 H.size) cv_X7_thrown q_t7_170 rfl rfl ⟨Nat.le_of_ble_eq_true rfl, Nat.le_of_ble_eq_true rfl⟩ hk2.1 (by simp) rfl rfl rfl hl.1 rfl (Nat.le_of_ble_eq_true rfl) (dc tbL_law_36_k 36 rfl) ⟨by have := hc.1; show _ ≤ 600002; omega, by have := hc.2; show _ ≤ 7302232; omega⟩) hJ hI hA.symm hd2 (fun H locs hJ hI => ?_)
  refine lv_iload hx hb (dc tbL_law_36_k 37 rfl) (lv_at hl 1 rfl) ?_
  refine lv_icmp_eq (tgt := 2604) hx hb (dc tbL_law_36_k 38 rfl) rfl (fun c10 => ?_) (fun c10 => ?_)
  · have hf := ite_t c10 hf
    refine lv_iload hx hb (dc tbL_law_37_k 1 rfl) (lv_at hl 1 rfl) ?_
    refine lv_if_ne (tgt := 2621) hx hb (dc tbL_law_37_k 2 rfl) rfl (fun c11 => ?_) (fun c11 => ?_)
    · have hf := ite_f c11 hf
      refine lv_goto (tgt := 2624) hx hb (dc tbL_law_37_k 12 rfl) rfl ?_
      cases hf
      refine W.widen (k := cells + 64) (n := slots + 512) (by omega) (by omega) ?_
      exact hk _ _ _ hI hJ (lv_sub hl [2, 3, 4, 5, 6, 7] rfl)
    · have hf := ite_t c11 hf
      refine lv_aload_n hx hb (dc tbL_law_37_k 3 rfl) rfl (lv_at hl 5 rfl) ?_
      refine lv_iconst (v := 0) hx hb (dc tbL_law_37_k 4 rfl) ic_0 ?_
      obtain ⟨h12, hf⟩ := chk_s hf
      refine g_lald hx hb hK hI hk1 (okb_in h12) (dc tbL_law_37_k 5 rfl) ?_
      refine lv_iload hx hb (dc tbL_law_37_k 6 rfl) (lv_at hl 0 rfl) ?_
      refine lv_i2l hx hb (dc tbL_law_37_k 7 rfl) rfl ?_
      refine W.lcmp hx hb (dc tbL_law_37_k 8 rfl) ?_
      refine lv_if_eq (tgt := 2621) hx hb (dc tbL_law_37_k 9 rfl) rfl (fun c13 => ?_) (fun c13 => ?_)
      · have hf := ite_t c13 hf
        refine lv_goto (tgt := 2624) hx hb (dc tbL_law_37_k 12 rfl) rfl ?_
        cases hf
        refine W.widen (k := cells + 64) (n := slots + 512) (by omega) (by omega) ?_
        exact hk _ _ _ hI hJ (lv_sub hl [2, 3, 4, 5, 6, 7] rfl)
      · have hf := ite_f c13 hf
        refine lv_iconst (v := 0) hx hb (dc tbL_law_37_k 10 rfl) ic_0 ?_
        cases hf
  · have hf := ite_f c10 hf
    refine lv_iconst (v := 0) hx hb (dc tbL_law_36_k 39 rfl) ic_0 ?_
    cases hf
end LC
