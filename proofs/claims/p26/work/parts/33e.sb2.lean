def mJ0_getBytes_840e7 (k0 : Nat) (k1 : Nat) (n1 : Nat) (x2 : Int32) (x3 : Int32) (M : Mem) : Option (Mem × Unit) := cap (mJ0_coder_7d493 k0 M) (fun r2 => ite2 (r2 = x3) (chk (!(decide ((x2 <<< (x3 &&& 31)) < 0)) && decide (((x2 <<< (x3 &&& 31))).toNatClampNeg + stLen k0 ≤ n1)) (bnd (cpS M k0 k1 ((x2 <<< (x3 &&& 31))).toNatClampNeg) (fun M5 => some (M5, ())))) (none))
set_option maxHeartbeats 4000000 in
set_option maxRecDepth 100000 in
theorem tJ0_getBytes_840e7 (l : Launch) {G : GT} {kd : Nat → Nat × Nat} {ad : Nat → Nat} {k0 : Nat} {k1 : Nat} {n1 : Nat} (hk0 : k0 < 12) (hk1 : kd k1 = (11, n1)) {x2 : Int32} {x3 : Int32} {M : Mem} {MO : Mem} {vo : Unit} (hf : mJ0_getBytes_840e7 k0 k1 n1 x2 x3 M = some (MO, vo)) (n : Nat) : Met l yJ0_getBytes_840e7 (Cond.code yJ0_getBytes_840e7 cJ0_getBytes_840e7 4 none :: WA) (rmO 1 0 0) (Pg G kd ad n [.ref (G.2.2 (100 + k0)), .ref (ad k1), .int x2, .int x3] M) (Qg G kd ad n MO none) 0 0 (AS kd ad n) := by
  refine g_body (own := RJ0) (by decide) rfl ?_ (Nat.le_of_ble_eq_true rfl)
  intro p e s m args below meth c C _ H locs ls hI hl
  obtain ⟨hx, hb, hml, hr, hown, hts, hlk, hK, hap, hsx⟩ := id C
  have hl : lv_has ls 4 [(0, .ref (G.2.2 (100 + k0))), (1, .ref (ad k1)), (2, .int x2), (3, .int x3)] := hl
  unfold mJ0_getBytes_840e7 at hf
  refine lv_aload_n hx hb (dc tbJ0_getBytes_840e7_k 0 rfl) rfl (lv_at hl 0 rfl) ?_
  obtain ⟨r2, q1, hf⟩ := cap_s hf
  refine g_callTi hx hb hml hown hts hK hap hsx hI (tJ0_coder_7d493 l hk0 q1 H.size) cv_J0_coder_7d493 q_t4_59 rfl rfl ⟨Nat.le_of_ble_eq_true rfl, Nat.le_of_ble_eq_true rfl⟩ hk0 rfl hl.1 rfl (Nat.le_of_ble_eq_true rfl) (dc tbJ0_getBytes_840e7_k 1 rfl) ⟨Nat.le_of_ble_eq_true rfl, Nat.le_of_ble_eq_true rfl⟩ (fun H locs hI => ?_)
  refine lv_iload_n hx hb (dc tbJ0_getBytes_840e7_k 2 rfl) rfl (lv_at hl 3 rfl) ?_
  refine lv_icmp_ne (tgt := 28) hx hb (dc tbJ0_getBytes_840e7_k 3 rfl) rfl (fun c4 => ?_) (fun c4 => ?_)
  · have hf := ite_f c4 hf
    refine lv_aload_n hx hb (dc tbJ0_getBytes_840e7_k 16 rfl) rfl (lv_at hl 0 rfl) ?_
    refine g_sval hx hb hown hts hsx hI hk0 q_t5_6 (dc tbJ0_getBytes_840e7_k 17 rfl) ?_
    refine lv_iconst (v := 0) hx hb (dc tbJ0_getBytes_840e7_k 18 rfl) ic_0 ?_
    refine lv_aload_n hx hb (dc tbJ0_getBytes_840e7_k 19 rfl) rfl (lv_at hl 1 rfl) ?_
    refine lv_iload_n hx hb (dc tbJ0_getBytes_840e7_k 20 rfl) rfl (lv_at hl 2 rfl) ?_
    refine lv_aload_n hx hb (dc tbJ0_getBytes_840e7_k 21 rfl) rfl (lv_at hl 0 rfl) ?_
    refine g_sval hx hb hown hts hsx hI hk0 q_t5_6 (dc tbJ0_getBytes_840e7_k 22 rfl) ?_
    refine g_svlen hx hb hsx hI hk0 (dc tbJ0_getBytes_840e7_k 23 rfl) ?_
    cases hf
  · have hf := ite_t c4 hf
    refine lv_aload_n hx hb (dc tbJ0_getBytes_840e7_k 4 rfl) rfl (lv_at hl 0 rfl) ?_
    refine g_sval hx hb hown hts hsx hI hk0 q_t5_6 (dc tbJ0_getBytes_840e7_k 5 rfl) ?_
    refine lv_iconst (v := 0) hx hb (dc tbJ0_getBytes_840e7_k 6 rfl) ic_0 ?_
    refine lv_aload_n hx hb (dc tbJ0_getBytes_840e7_k 7 rfl) rfl (lv_at hl 1 rfl) ?_
    refine lv_iload_n hx hb (dc tbJ0_getBytes_840e7_k 8 rfl) rfl (lv_at hl 2 rfl) ?_
    refine lv_iload_n hx hb (dc tbJ0_getBytes_840e7_k 9 rfl) rfl (lv_at hl 3 rfl) ?_
    refine lv_ishl hx hb (dc tbJ0_getBytes_840e7_k 10 rfl) ?_
    refine lv_aload_n hx hb (dc tbJ0_getBytes_840e7_k 11 rfl) rfl (lv_at hl 0 rfl) ?_
    refine g_sval hx hb hown hts hsx hI hk0 q_t5_6 (dc tbJ0_getBytes_840e7_k 12 rfl) ?_
    refine g_svlen hx hb hsx hI hk0 (dc tbJ0_getBytes_840e7_k 13 rfl) ?_
    obtain ⟨h7, hf⟩ := chk_s hf
    obtain ⟨M5, e6, hf⟩ := bnd_s hf
    refine g_copyS hx hb (hml.trans hl.1.symm) hown (hts _ q_t4_96) (hts _ q_t3_89) (hts _ q_t3_88) (hts _ q_t1_20) hK hap hsx hI hk0 hk1 h7 ⟨Nat.le_of_ble_eq_true rfl, Nat.le_of_ble_eq_true rfl⟩ (dc tbJ0_getBytes_840e7_k 14 rfl) e6 (fun H locs hI => ?_)
    refine lv_goto (tgt := 43) hx hb (dc tbJ0_getBytes_840e7_k 15 rfl) rfl ?_
    cases hf
    exact g_vret hx hb hr hlk hI (dc tbJ0_getBytes_840e7_k 25 rfl)
theorem cv_J0_getBytes_840e7 : cvF RJ0 yJ0_getBytes_840e7 cJ0_getBytes_840e7 4 none 3 := ⟨q_t4_93, q_t4_94, q_t1_9, q_t4_95, by decide +kernel⟩
def mJ5_inflateIfNeededFor_a7421 (k0 : Nat) (M : Mem) : Option Unit := ite2 ((1 : Int32) = 0) (some ()) (cap (mJ0_coder_7d493 k0 M) (fun r3 => ite2 ((rd M 133 1) = r3) (some ()) (none)))
set_option maxHeartbeats 4000000 in
set_option maxRecDepth 100000 in
theorem tJ5_inflateIfNeededFor_a7421 (l : Launch) {G : GT} {kd : Nat → Nat × Nat} {ad : Nat → Nat} {M : Mem} {k0 : Nat} (hk0 : k0 < 12) (hS : Sb kd (rd M 133 0)) {vo : Unit} (hf : mJ5_inflateIfNeededFor_a7421 k0 M = some vo) (n : Nat) : Met l yJ5_inflateIfNeededFor_a7421 (Cond.code yJ5_inflateIfNeededFor_a7421 cJ5_inflateIfNeededFor_a7421 2 none :: WA) (rmO 1 0 0) (Pg G kd ad n [.ref (ad 133), .ref (G.2.2 (100 + k0))] M) (Qg G kd ad n M none) 0 0 (AS kd ad n) := by
  refine g_body (own := RJ5) (by decide) rfl ?_ (Nat.le_of_ble_eq_true rfl)
  intro p e s m args below meth c C _ H locs ls hI hl
  obtain ⟨hx, hb, hml, hr, hown, hts, hlk, hK, hap, hsx⟩ := id C
  have hl : lv_has ls 2 [(0, .ref (ad 133)), (1, .ref (G.2.2 (100 + k0)))] := hl
  unfold mJ5_inflateIfNeededFor_a7421 at hf
  refine g_gscs hx hb hown hts hsx hI q_t2_59 (dc tbJ5_inflateIfNeededFor_a7421_k 0 rfl) ?_
  refine lv_if_eq (tgt := 21) hx hb (dc tbJ5_inflateIfNeededFor_a7421_k 1 rfl) rfl (fun c1 => ?_) (fun c1 => ?_)
  · have hf := ite_t c1 hf
    cases hf
    exact g_vret hx hb hr hlk hI (dc tbJ5_inflateIfNeededFor_a7421_k 9 rfl)
  · have hf := ite_f c1 hf
    refine lv_aload_n hx hb (dc tbJ5_inflateIfNeededFor_a7421_k 2 rfl) rfl (lv_at hl 0 rfl) ?_
    refine ggSB_1 hx hb hts hown hK hI hS.1 q_t2_69 (dc tbJ5_inflateIfNeededFor_a7421_k 3 rfl) ?_
    refine lv_aload_n hx hb (dc tbJ5_inflateIfNeededFor_a7421_k 4 rfl) rfl (lv_at hl 1 rfl) ?_
    obtain ⟨r3, q2, hf⟩ := cap_s hf
    refine g_callTi hx hb hml hown hts hK hap hsx hI (tJ0_coder_7d493 l hk0 q2 H.size) cv_J0_coder_7d493 q_t4_72 rfl rfl ⟨Nat.le_of_ble_eq_true rfl, Nat.le_of_ble_eq_true rfl⟩ hk0 rfl hl.1 rfl (Nat.le_of_ble_eq_true rfl) (dc tbJ5_inflateIfNeededFor_a7421_k 5 rfl) ⟨Nat.le_of_ble_eq_true rfl, Nat.le_of_ble_eq_true rfl⟩ (fun H locs hI => ?_)
    refine lv_icmp_eq (tgt := 21) hx hb (dc tbJ5_inflateIfNeededFor_a7421_k 6 rfl) rfl (fun c5 => ?_) (fun c5 => ?_)
    · have hf := ite_t c5 hf
      cases hf
      exact g_vret hx hb hr hlk hI (dc tbJ5_inflateIfNeededFor_a7421_k 9 rfl)
    · have hf := ite_f c5 hf
      refine lv_aload_n hx hb (dc tbJ5_inflateIfNeededFor_a7421_k 7 rfl) rfl (lv_at hl 0 rfl) ?_
      cases hf
def mJ5_putStringAt_47b60 (k0 : Nat) (x1 : Int32) (M : Mem) : Option (Mem × Unit) := cap (mJ5_inflateIfNeededFor_a7421 k0 M) (fun r2 => cal (mJ0_getBytes_840e7 k0 (sbv 133 (rd M 133 0)) (sbn (rd M 133 0)) x1 (rd M 133 1) M) (fun M7 _ => some (M7, ())))
set_option maxHeartbeats 4000000 in
set_option maxRecDepth 100000 in
theorem tJ5_putStringAt_47b60 (l : Launch) {G : GT} {kd : Nat → Nat × Nat} {ad : Nat → Nat} {M : Mem} {k0 : Nat} (hk0 : k0 < 12) (hS : Sb kd (rd M 133 0)) {x1 : Int32} {MO : Mem} {vo : Unit} (hf : mJ5_putStringAt_47b60 k0 x1 M = some (MO, vo)) (n : Nat) : Met l yJ5_putStringAt_47b60 (Cond.code yJ5_putStringAt_47b60 cJ5_putStringAt_47b60 3 none :: WA) (rmO 2 0 0) (Pg G kd ad n [.ref (ad 133), .int x1, .ref (G.2.2 (100 + k0))] M) (Qg G kd ad n MO none) 0 0 (AS kd ad n) := by
  refine g_body (own := RJ5) (by decide) rfl ?_ (Nat.le_of_ble_eq_true rfl)
  intro p e s m args below meth c C _ H locs ls hI hl
  obtain ⟨hx, hb, hml, hr, hown, hts, hlk, hK, hap, hsx⟩ := id C
  have hl : lv_has ls 3 [(0, .ref (ad 133)), (1, .int x1), (2, .ref (G.2.2 (100 + k0)))] := hl
  unfold mJ5_putStringAt_47b60 at hf
  refine lv_aload_n hx hb (dc tbJ5_putStringAt_47b60_k 0 rfl) rfl (lv_at hl 0 rfl) ?_
  refine lv_aload_n hx hb (dc tbJ5_putStringAt_47b60_k 1 rfl) rfl (lv_at hl 2 rfl) ?_
  obtain ⟨r2, q1, hf⟩ := cap_s hf
  refine g_callUv (n := 1) hx hb hml hown hts hK hap hsx hI (tJ5_inflateIfNeededFor_a7421 l hk0 hS q1 H.size) q_t4_68 q_t10_28 q_t4_70 q_t1_7 q_t4_71 q_wk_5 (by decide +kernel) rfl rfl ⟨Nat.le_of_ble_eq_true rfl, Nat.le_of_ble_eq_true rfl⟩ hS.1 (by simp) rfl rfl rfl hl.1 rfl (Nat.le_of_ble_eq_true rfl) (dc tbJ5_putStringAt_47b60_k 2 rfl) ⟨Nat.le_of_ble_eq_true rfl, Nat.le_of_ble_eq_true rfl⟩ (fun H locs hI => ?_)
  refine lv_aload_n hx hb (dc tbJ5_putStringAt_47b60_k 3 rfl) rfl (lv_at hl 2 rfl) ?_
  refine lv_aload_n hx hb (dc tbJ5_putStringAt_47b60_k 4 rfl) rfl (lv_at hl 0 rfl) ?_
  refine ggSB_0 hx hb hts hown hK hI hS.1 q_t2_68 (dc tbJ5_putStringAt_47b60_k 5 rfl) ?_
  refine lv_iload_n hx hb (dc tbJ5_putStringAt_47b60_k 6 rfl) rfl (lv_at hl 1 rfl) ?_
  refine lv_aload_n hx hb (dc tbJ5_putStringAt_47b60_k 7 rfl) rfl (lv_at hl 0 rfl) ?_
  refine ggSB_1 hx hb hts hown hK hI hS.1 q_t2_69 (dc tbJ5_putStringAt_47b60_k 8 rfl) ?_
  obtain ⟨M7, r6, q5, hf⟩ := cal_s hf
  refine g_callTv hx hb hml hown hts hK hap hsx hI (tJ0_getBytes_840e7 l hk0 hS.2.1 q5 H.size) cv_J0_getBytes_840e7 q_t4_92 rfl rfl ⟨Nat.le_of_ble_eq_true rfl, Nat.le_of_ble_eq_true rfl⟩ hk0 rfl hl.1 rfl (Nat.le_of_ble_eq_true rfl) (dc tbJ5_putStringAt_47b60_k 9 rfl) ⟨Nat.le_of_ble_eq_true rfl, Nat.le_of_ble_eq_true rfl⟩ (fun H locs hI => ?_)
  cases hf
  exact g_vret hx hb hr hlk hI (dc tbJ5_putStringAt_47b60_k 10 rfl)
def mJ5_append_3fe6f_b45 (g : Int32) (x1 : Int32) (M : Mem) : Option (Mem × Unit) := chk (decide (rd M 133 0 = g)) (cap (mJ5_isLatin1_aae02 M) (fun r10 => ite2 (r10 = 0) (chk (decide (rd M 133 0 = g)) (bnd (wr M 133 3 ((rd M 133 3) + (1 : Int32))) (fun M14 => none))) (none)))
set_option maxHeartbeats 4000000 in
set_option maxRecDepth 100000 in
theorem tJ5_append_3fe6f_b45 {p : Program} {l : Launch} {e : Env} {s : State} {m : MethodId} {args : Array Value} {below : List Frame} {meth : Method} {c : Code} {G : GT} {kd : Nat → Nat × Nat} {ad : Nat → Nat} (C : Cx p s m args meth c cJ5_append_3fe6f 2 (some (.object "java/lang/AbstractStringBuilder")) RJ5 G kd ad) {g : Int32} {kd0 : Nat → Nat × Nat} {ad0 : Nat → Nat} (hS : Sb kd g) (hL : Low kd) (hE : Ext kd0 ad0 kd ad s.heap.size) {MO : Mem} {vo : Unit}   : ∀ (x1 : Int32) (M : Mem), mJ5_append_3fe6f_b45  g x1 M = some (MO, vo) → At p l e (rmO 4 1 70) s m args below meth c 1 70 (MQ below (Qr G kd0 ad0 s.heap.size MO (some (.ref (ad 133)))) args s 1 70 (AS kd0 ad0 s.heap.size)) G kd ad 2 45 [(0, .ref (ad 133)), (1, .int x1)] [] M := by
  intro x1 M hf H locs ls hI hl
  obtain ⟨hx, hb, hml, hr, hown, hts, hlk, hK, hap, hsx⟩ := id C
  unfold mJ5_append_3fe6f_b45 at hf
  refine lv_aload_n hx hb (dc tbJ5_append_3fe6f_0_k 25 rfl) rfl (lv_at hl 0 rfl) ?_
  obtain ⟨h8, hf⟩ := chk_s hf
  obtain ⟨r10, q9, hf⟩ := cap_s hf
  refine g_callUi (n := 0) hx hb hml hown hts hK hap hsx hI (tJ5_isLatin1_aae02 l  (by rw [of_decide_eq_true h8]; exact hS) q9 H.size) q_t4_24 q_t4_26 q_t4_25 q_t1_7 q_t4_28 q_t4_27 (by decide +kernel) rfl rfl ⟨Nat.le_of_ble_eq_true rfl, Nat.le_of_ble_eq_true rfl⟩ hS.1 (by simp) rfl rfl rfl hl.1 rfl (Nat.le_of_ble_eq_true rfl) (dc tbJ5_append_3fe6f_0_k 26 rfl) ⟨Nat.le_of_ble_eq_true rfl, Nat.le_of_ble_eq_true rfl⟩ (fun H locs hI => ?_)
  refine lv_if_eq (tgt := 56) hx hb (dc tbJ5_append_3fe6f_0_k 27 rfl) rfl (fun c12 => ?_) (fun c12 => ?_)
  · have hf := ite_t c12 hf
    refine lv_aload_n hx hb (dc tbJ5_append_3fe6f_0_k 30 rfl) rfl (lv_at hl 0 rfl) ?_
    obtain ⟨h13, hf⟩ := chk_s hf
    refine ggSB_0 hx hb hts hown hK hI hS.1 q_t2_68 (dc tbJ5_append_3fe6f_0_k 31 rfl) ?_
    rw [of_decide_eq_true h13]
    refine lv_aload_n hx hb (dc tbJ5_append_3fe6f_0_k 32 rfl) rfl (lv_at hl 0 rfl) ?_
    refine lv_dup hx hb (dc tbJ5_append_3fe6f_0_k 33 rfl) rfl ?_
    refine ggSB_3 hx hb hts hown hK hI hS.1 q_t2_72 (dc tbJ5_append_3fe6f_0_k 34 rfl) ?_
    refine lv_dup_x1 hx hb (dc tbJ5_append_3fe6f_0_k 35 rfl) rfl rfl ?_
    refine lv_iconst (v := 1) hx hb (dc tbJ5_append_3fe6f_0_k 36 rfl) ic_1 ?_
    refine lv_iadd hx hb (dc tbJ5_append_3fe6f_0_k 37 rfl) ?_
    obtain ⟨M14, e15, hf⟩ := bnd_s hf
    refine gpSB_3 hx hb hts hown hK hap hI hS.1 q_t2_72 (dc tbJ5_append_3fe6f_0_k 38 rfl) e15 (fun H locs hI => ?_)
    refine lv_iload_n hx hb (dc tbJ5_append_3fe6f_0_k 39 rfl) rfl (lv_at hl 1 rfl) ?_
    cases hf
  · have hf := ite_f c12 hf
    refine lv_aload_n hx hb (dc tbJ5_append_3fe6f_0_k 28 rfl) rfl (lv_at hl 0 rfl) ?_
    cases hf
def mJ5_append_3fe6f (x1 : Int32) (M : Mem) : Option (Mem × Unit) := cal (mJ5_ensureCapacityInternal_d00df ((rd M 133 3) + (1 : Int32)) M) (fun M3 _ => cap (mJ5_isLatin1_aae02 M3) (fun r5 => ite2 (r5 = 0) (mJ5_append_3fe6f_b45  (rd M3 133 0) x1 M3) (cap (mJ1_canEncode_fc78d x1 M3) (fun r17 => ite2 (r17 = 0) (mJ5_append_3fe6f_b45  (rd M3 133 0) x1 M3) (bnd (wr M3 133 3 ((rd M3 133 3) + (1 : Int32))) (fun M21 => chk (okb (rd M3 133 3) (sbn (rd M3 133 0))) (bnd (wr M21 (sbv 133 (rd M3 133 0)) ((rd M3 133 3)).toNatClampNeg (vp_nar .byte (x1).toInt8.toInt32)) (fun M25 => chk (decide (rd M25 133 0 = rd M3 133 0)) (some (M25, ()))))))))))
set_option maxHeartbeats 4000000 in
set_option maxRecDepth 100000 in
theorem tJ5_append_3fe6f (l : Launch) {G : GT} {kd : Nat → Nat × Nat} {ad : Nat → Nat} {M : Mem} (hS : Sb kd (rd M 133 0)) (hL : Low kd) {x1 : Int32} {MO : Mem} {vo : Unit} (hf : mJ5_append_3fe6f  x1 M = some (MO, vo)) (n : Nat) : Met l yJ5_append_3fe6f (Cond.code yJ5_append_3fe6f cJ5_append_3fe6f 2 (some (.object "java/lang/AbstractStringBuilder")) :: WA) (rmO 4 1 70) (Pg G kd ad n [.ref (ad 133), .int x1] M) (Qr G kd ad n MO (some (.ref (ad 133)))) 1 70 (AS kd ad n) := by
  refine g_bodyR (own := RJ5) (by decide) rfl ?_ (Nat.le_of_ble_eq_true rfl)
  intro p e s m args below meth c C _ H locs ls hI hl
  obtain ⟨hx, hb, hml, hr, hown, hts, hlk, hK, hap, hsx⟩ := id C
  have hl : lv_has ls 2 [(0, .ref (ad 133)), (1, .int x1)] := hl
  have hE : Ext kd ad kd ad s.heap.size := Ext.refl
  unfold mJ5_append_3fe6f at hf
  refine lv_aload_n hx hb (dc tbJ5_append_3fe6f_0_k 0 rfl) rfl (lv_at hl 0 rfl) ?_
  refine lv_aload_n hx hb (dc tbJ5_append_3fe6f_0_k 1 rfl) rfl (lv_at hl 0 rfl) ?_
  refine ggSB_3 hx hb hts hown hK hI hS.1 q_t2_72 (dc tbJ5_append_3fe6f_0_k 2 rfl) ?_
  refine lv_iconst (v := 1) hx hb (dc tbJ5_append_3fe6f_0_k 3 rfl) ic_1 ?_
  refine lv_iadd hx hb (dc tbJ5_append_3fe6f_0_k 4 rfl) ?_
  obtain ⟨M3, r2, q1, hf⟩ := cal_s hf
  refine g_callURv (n := 1) hx hb hml hown hts hK hap hsx hI (tJ5_ensureCapacityInternal_d00df l  hS hL q1 H.size) q_t3_235 q_t10_25 q_t3_237 q_t1_7 q_t3_238 q_wk_0 (by decide +kernel) rfl rfl ⟨Nat.le_of_ble_eq_true rfl, Nat.le_of_ble_eq_true rfl⟩ hS.1 (by simp) rfl rfl rfl hl.1 rfl (Nat.le_of_ble_eq_true rfl) (dc tbJ5_append_3fe6f_0_k 5 rfl) ⟨Nat.le_of_ble_eq_true rfl, Nat.le_of_ble_eq_true rfl⟩ (fun kd1 ad1 H locs hE1 hL1 hS1 hap1 hI => ?_)
  have e0_ : ad1 133 = ad 133 := (hE1.1 133 (by rw [hS.1]; simp)).2
  have hl1 : lv_has ls 2 [(0, .ref (ad1 133)), (1, .int x1)] := by simp only [e0_]; exact hl
  try simp only [← e0_]
  have hE_ := hE.trans hE1 (Nat.le_refl _)
  have C_ := C.ext hE1 hap1
  clear hE1 e0_
  revert kd1 ad1
  intro kd ad hL hS hap hI hl  hE C
  obtain ⟨hx, hb, hml, hr, hown, hts, hlk, hK, hap, hsx⟩ := id C
  refine lv_aload_n hx hb (dc tbJ5_append_3fe6f_0_k 6 rfl) rfl (lv_at hl 0 rfl) ?_
  obtain ⟨r5, q4, hf⟩ := cap_s hf
  refine g_callUi (n := 0) hx hb hml hown hts hK hap hsx hI (tJ5_isLatin1_aae02 l  hS q4 H.size) q_t4_24 q_t4_26 q_t4_25 q_t1_7 q_t4_28 q_t4_27 (by decide +kernel) rfl rfl ⟨Nat.le_of_ble_eq_true rfl, Nat.le_of_ble_eq_true rfl⟩ hS.1 (by simp) rfl rfl rfl hl.1 rfl (Nat.le_of_ble_eq_true rfl) (dc tbJ5_append_3fe6f_0_k 7 rfl) ⟨Nat.le_of_ble_eq_true rfl, Nat.le_of_ble_eq_true rfl⟩ (fun H locs hI => ?_)
  refine lv_if_eq (tgt := 45) hx hb (dc tbJ5_append_3fe6f_0_k 8 rfl) rfl (fun c7 => ?_) (fun c7 => ?_)
  · have hf := ite_t c7 hf
    exact tJ5_append_3fe6f_b45 C hS hL hE x1 M3 hf _ _ _ hI (lv_sub hl [0, 1] rfl)
  · have hf := ite_f c7 hf
    refine lv_iload_n hx hb (dc tbJ5_append_3fe6f_0_k 9 rfl) rfl (lv_at hl 1 rfl) ?_
    obtain ⟨r17, q16, hf⟩ := cap_s hf
    refine g_callSi hx hb hml hown hts hK hap hsx hI (tJ1_canEncode_fc78d l  q16 H.size) cs_J1_canEncode_fc78d q_t5_79 rfl rfl ⟨Nat.le_of_ble_eq_true rfl, Nat.le_of_ble_eq_true rfl⟩ rfl hl.1 rfl (Nat.le_of_ble_eq_true rfl) (dc tbJ5_append_3fe6f_0_k 10 rfl) ⟨Nat.le_of_ble_eq_true rfl, Nat.le_of_ble_eq_true rfl⟩ (fun H locs hI => ?_)
    refine lv_if_eq (tgt := 45) hx hb (dc tbJ5_append_3fe6f_0_k 11 rfl) rfl (fun c19 => ?_) (fun c19 => ?_)
    · have hf := ite_t c19 hf
      exact tJ5_append_3fe6f_b45 C hS hL hE x1 M3 hf _ _ _ hI (lv_sub hl [0, 1] rfl)
    · have hf := ite_f c19 hf
      refine lv_aload_n hx hb (dc tbJ5_append_3fe6f_0_k 12 rfl) rfl (lv_at hl 0 rfl) ?_
      refine ggSB_0 hx hb hts hown hK hI hS.1 q_t2_68 (dc tbJ5_append_3fe6f_0_k 13 rfl) ?_
      refine lv_aload_n hx hb (dc tbJ5_append_3fe6f_0_k 14 rfl) rfl (lv_at hl 0 rfl) ?_
      refine lv_dup hx hb (dc tbJ5_append_3fe6f_0_k 15 rfl) rfl ?_
      refine ggSB_3 hx hb hts hown hK hI hS.1 q_t2_72 (dc tbJ5_append_3fe6f_0_k 16 rfl) ?_
      refine lv_dup_x1 hx hb (dc tbJ5_append_3fe6f_0_k 17 rfl) rfl rfl ?_
      refine lv_iconst (v := 1) hx hb (dc tbJ5_append_3fe6f_0_k 18 rfl) ic_1 ?_
      refine lv_iadd hx hb (dc tbJ5_append_3fe6f_0_k 19 rfl) ?_
      obtain ⟨M21, e22, hf⟩ := bnd_s hf
      refine gpSB_3 hx hb hts hown hK hap hI hS.1 q_t2_72 (dc tbJ5_append_3fe6f_0_k 20 rfl) e22 (fun H locs hI => ?_)
      refine lv_iload_n hx hb (dc tbJ5_append_3fe6f_0_k 21 rfl) rfl (lv_at hl 1 rfl) ?_
      refine lv_i2b hx hb (dc tbJ5_append_3fe6f_0_k 22 rfl) rfl ?_
      obtain ⟨h23, hf⟩ := chk_s hf
      obtain ⟨M25, e24, hf⟩ := bnd_s hf
      refine g_bast hx hb hK hap hI hS.2.1 (okb_in h23) (dc tbJ5_append_3fe6f_0_k 23 rfl) e24 (fun H locs hI => ?_)
      refine lv_goto (tgt := 75) hx hb (dc tbJ5_append_3fe6f_0_k 24 rfl) rfl ?_
      refine lv_aload_n hx hb (dc tbJ5_append_3fe6f_1_k 1 rfl) rfl (lv_at hl 0 rfl) ?_
      obtain ⟨h26, hf⟩ := chk_s hf
      rw [← of_decide_eq_true h26] at hS
      cases hf
      exact g_aretR hx hb hr (Or.inl ⟨_, rfl⟩) hlk hE hL hS hap hI (dc tbJ5_append_3fe6f_1_k 2 rfl)
def mJ5_append_c97b9 (x1 : Int32) (M : Mem) : Option (Mem × Unit) := bnd ((rd M 133 3)) (fun x2_4 => cap (mJ6_stringSize_0f7a4 x1 M) (fun r3 => bnd ((x2_4 + r3)) (fun x3_11 => cal (mJ5_ensureCapacityInternal_d00df x3_11 M) (fun M8 _ => cap (mJ5_isLatin1_aae02 M8) (fun r10 => ite2 (r10 = 0) (none) (cal (mJ6_getChars_ba4f3 (sbv 133 (rd M8 133 0)) (sbn (rd M8 133 0)) x1 x3_11 M8) (fun M17 r16 => bnd (wr M17 133 3 x3_11) (fun M18 => chk (decide (rd M18 133 0 = rd M8 133 0)) (some (M18, ()))))))))))
set_option maxHeartbeats 4000000 in
set_option maxRecDepth 100000 in
theorem tJ5_append_c97b9 (l : Launch) {G : GT} {kd : Nat → Nat × Nat} {ad : Nat → Nat} {M : Mem} (hS : Sb kd (rd M 133 0)) (hL : Low kd) {x1 : Int32} {MO : Mem} {vo : Unit} (hf : mJ5_append_c97b9  x1 M = some (MO, vo)) (n : Nat) : Met l yJ5_append_c97b9 (Cond.code yJ5_append_c97b9 cJ5_append_c97b9 4 (some (.object "java/lang/AbstractStringBuilder")) :: WA) (rmO 4 1 70) (Pg G kd ad n [.ref (ad 133), .int x1] M) (Qr G kd ad n MO (some (.ref (ad 133)))) 1 70 (AS kd ad n) := by
  refine g_bodyR (own := RJ5) (by decide) rfl ?_ (Nat.le_of_ble_eq_true rfl)
  intro p e s m args below meth c C _ H locs ls hI hl
  obtain ⟨hx, hb, hml, hr, hown, hts, hlk, hK, hap, hsx⟩ := id C
  have hl : lv_has ls 4 [(0, .ref (ad 133)), (1, .int x1)] := hl
  have hE : Ext kd ad kd ad s.heap.size := Ext.refl
  unfold mJ5_append_c97b9 at hf
  refine lv_aload_n hx hb (dc tbJ5_append_c97b9_k 0 rfl) rfl (lv_at hl 0 rfl) ?_
  refine ggSB_3 hx hb hts hown hK hI hS.1 q_t2_72 (dc tbJ5_append_c97b9_k 1 rfl) ?_
  obtain ⟨x2_4, e1, hf⟩ := bnd_s hf
  refine lv_ei e1 ?_
  refine lv_istore_n (lv' := [(2, .int x2_4), (0, .ref (ad 133)), (1, .int x1)]) hx hb (dc tbJ5_append_c97b9_k 2 rfl) rfl hl (by decide) rfl (fun ls hl => ?_)
  refine lv_iload_n hx hb (dc tbJ5_append_c97b9_k 3 rfl) rfl (lv_at hl 0 rfl) ?_
  refine lv_iload_n hx hb (dc tbJ5_append_c97b9_k 4 rfl) rfl (lv_at hl 2 rfl) ?_
  obtain ⟨r3, q2, hf⟩ := cap_s hf
  refine g_callSi hx hb hml hown hts hK hap hsx hI (tJ6_stringSize_0f7a4 l  q2 H.size) cs_J6_stringSize_0f7a4 q_t4_105 rfl rfl ⟨Nat.le_of_ble_eq_true rfl, Nat.le_of_ble_eq_true rfl⟩ rfl hl.1 rfl (Nat.le_of_ble_eq_true rfl) (dc tbJ5_append_c97b9_k 5 rfl) ⟨Nat.le_of_ble_eq_true rfl, Nat.le_of_ble_eq_true rfl⟩ (fun H locs hI => ?_)
  refine lv_iadd hx hb (dc tbJ5_append_c97b9_k 6 rfl) ?_
  obtain ⟨x3_11, e5, hf⟩ := bnd_s hf
  refine lv_ei e5 ?_
  refine lv_istore_n (lv' := [(3, .int x3_11), (2, .int x2_4), (0, .ref (ad 133)), (1, .int x1)]) hx hb (dc tbJ5_append_c97b9_k 7 rfl) rfl hl (by decide) rfl (fun ls hl => ?_)
  refine lv_aload_n hx hb (dc tbJ5_append_c97b9_k 8 rfl) rfl (lv_at hl 2 rfl) ?_
  refine lv_iload_n hx hb (dc tbJ5_append_c97b9_k 9 rfl) rfl (lv_at hl 0 rfl) ?_
  obtain ⟨M8, r7, q6, hf⟩ := cal_s hf
  refine g_callURv (n := 1) hx hb hml hown hts hK hap hsx hI (tJ5_ensureCapacityInternal_d00df l  hS hL q6 H.size) q_t3_235 q_t10_25 q_t3_237 q_t1_7 q_t3_238 q_wk_0 (by decide +kernel) rfl rfl ⟨Nat.le_of_ble_eq_true rfl, Nat.le_of_ble_eq_true rfl⟩ hS.1 (by simp) rfl rfl rfl hl.1 rfl (Nat.le_of_ble_eq_true rfl) (dc tbJ5_append_c97b9_k 10 rfl) ⟨Nat.le_of_ble_eq_true rfl, Nat.le_of_ble_eq_true rfl⟩ (fun kd1 ad1 H locs hE1 hL1 hS1 hap1 hI => ?_)
  have e0_ : ad1 133 = ad 133 := (hE1.1 133 (by rw [hS.1]; simp)).2
  have hl1 : lv_has ls 4 [(3, .int x3_11), (2, .int x2_4), (0, .ref (ad1 133)), (1, .int x1)] := by simp only [e0_]; exact hl
  try simp only [← e0_]
  have hE_ := hE.trans hE1 (Nat.le_refl _)
  have C_ := C.ext hE1 hap1
  clear hE1 e0_
  revert kd1 ad1
  intro kd ad hL hS hap hI hl  hE C
  obtain ⟨hx, hb, hml, hr, hown, hts, hlk, hK, hap, hsx⟩ := id C
  refine lv_aload_n hx hb (dc tbJ5_append_c97b9_k 11 rfl) rfl (lv_at hl 2 rfl) ?_
  obtain ⟨r10, q9, hf⟩ := cap_s hf
  refine g_callUi (n := 0) hx hb hml hown hts hK hap hsx hI (tJ5_isLatin1_aae02 l  hS q9 H.size) q_t4_24 q_t4_26 q_t4_25 q_t1_7 q_t4_28 q_t4_27 (by decide +kernel) rfl rfl ⟨Nat.le_of_ble_eq_true rfl, Nat.le_of_ble_eq_true rfl⟩ hS.1 (by simp) rfl rfl rfl hl.1 rfl (Nat.le_of_ble_eq_true rfl) (dc tbJ5_append_c97b9_k 12 rfl) ⟨Nat.le_of_ble_eq_true rfl, Nat.le_of_ble_eq_true rfl⟩ (fun H locs hI => ?_)
  refine lv_if_eq (tgt := 37) hx hb (dc tbJ5_append_c97b9_k 13 rfl) rfl (fun c12 => ?_) (fun c12 => ?_)
  · have hf := ite_t c12 hf
    refine lv_iload_n hx hb (dc tbJ5_append_c97b9_k 21 rfl) rfl (lv_at hl 3 rfl) ?_
    refine lv_iload_n hx hb (dc tbJ5_append_c97b9_k 22 rfl) rfl (lv_at hl 1 rfl) ?_
    refine lv_iload_n hx hb (dc tbJ5_append_c97b9_k 23 rfl) rfl (lv_at hl 0 rfl) ?_
    refine lv_aload_n hx hb (dc tbJ5_append_c97b9_k 24 rfl) rfl (lv_at hl 2 rfl) ?_
    refine ggSB_0 hx hb hts hown hK hI hS.1 q_t2_68 (dc tbJ5_append_c97b9_k 25 rfl) ?_
    cases hf
  · have hf := ite_f c12 hf
    refine lv_iload_n hx hb (dc tbJ5_append_c97b9_k 14 rfl) rfl (lv_at hl 3 rfl) ?_
    refine lv_iload_n hx hb (dc tbJ5_append_c97b9_k 15 rfl) rfl (lv_at hl 0 rfl) ?_
    refine lv_aload_n hx hb (dc tbJ5_append_c97b9_k 16 rfl) rfl (lv_at hl 2 rfl) ?_
    refine ggSB_0 hx hb hts hown hK hI hS.1 q_t2_68 (dc tbJ5_append_c97b9_k 17 rfl) ?_
    obtain ⟨M17, r16, q15, hf⟩ := cal_s hf
    refine g_callSi hx hb hml hown hts hK hap hsx hI (tJ6_getChars_ba4f3 l hS.2.1 q15 H.size) cs_J6_getChars_ba4f3 q_t4_108 rfl rfl ⟨Nat.le_of_ble_eq_true rfl, Nat.le_of_ble_eq_true rfl⟩ rfl hl.1 rfl (Nat.le_of_ble_eq_true rfl) (dc tbJ5_append_c97b9_k 18 rfl) ⟨Nat.le_of_ble_eq_true rfl, Nat.le_of_ble_eq_true rfl⟩ (fun H locs hI => ?_)
    refine lv_pop hx hb (dc tbJ5_append_c97b9_k 19 rfl) rfl ?_
    refine lv_goto (tgt := 48) hx hb (dc tbJ5_append_c97b9_k 20 rfl) rfl ?_
    refine lv_aload_n hx hb (dc tbJ5_append_c97b9_k 28 rfl) rfl (lv_at hl 2 rfl) ?_
    refine lv_iload_n hx hb (dc tbJ5_append_c97b9_k 29 rfl) rfl (lv_at hl 0 rfl) ?_
    obtain ⟨M18, e19, hf⟩ := bnd_s hf
    refine gpSB_3 hx hb hts hown hK hap hI hS.1 q_t2_72 (dc tbJ5_append_c97b9_k 30 rfl) e19 (fun H locs hI => ?_)
    refine lv_aload_n hx hb (dc tbJ5_append_c97b9_k 31 rfl) rfl (lv_at hl 2 rfl) ?_
    obtain ⟨h20, hf⟩ := chk_s hf
    rw [← of_decide_eq_true h20] at hS
    cases hf
    exact g_aretR hx hb hr (Or.inl ⟨_, rfl⟩) hlk hE hL hS hap hI (dc tbJ5_append_c97b9_k 32 rfl)
def mJ5_append_cf1ce (k0 : Nat) (M : Mem) : Option (Mem × Unit) := cap (mJ0_length_8abf5 k0 M) (fun r2 => cal (mJ5_ensureCapacityInternal_d00df ((rd M 133 3) + r2) M) (fun M6 _ => cal (mJ5_putStringAt_47b60 k0 (rd M6 133 3) M6) (fun M9 _ => bnd (wr M9 133 3 ((rd M9 133 3) + r2)) (fun M10 => chk (decide (rd M10 133 0 = rd M6 133 0)) (some (M10, ()))))))
set_option maxHeartbeats 4000000 in
set_option maxRecDepth 100000 in
theorem tJ5_append_cf1ce (l : Launch) {G : GT} {kd : Nat → Nat × Nat} {ad : Nat → Nat} {M : Mem} {k0 : Nat} (hk0 : k0 < 12) (hS : Sb kd (rd M 133 0)) (hL : Low kd) {MO : Mem} {vo : Unit} (hf : mJ5_append_cf1ce k0 M = some (MO, vo)) (n : Nat) : Met l yJ5_append_cf1ce (Cond.code yJ5_append_cf1ce cJ5_append_cf1ce 3 (some (.object "java/lang/AbstractStringBuilder")) :: WA) (rmO 4 1 70) (Pg G kd ad n [.ref (ad 133), .ref (G.2.2 (100 + k0))] M) (Qr G kd ad n MO (some (.ref (ad 133)))) 1 70 (AS kd ad n) := by
  refine g_bodyR (own := RJ5) (by decide) rfl ?_ (Nat.le_of_ble_eq_true rfl)
  intro p e s m args below meth c C _ H locs ls hI hl
  obtain ⟨hx, hb, hml, hr, hown, hts, hlk, hK, hap, hsx⟩ := id C
  have hl : lv_has ls 3 [(0, .ref (ad 133)), (1, .ref (G.2.2 (100 + k0)))] := hl
  have hE : Ext kd ad kd ad s.heap.size := Ext.refl
  unfold mJ5_append_cf1ce at hf
  refine lv_aload_n hx hb (dc tbJ5_append_cf1ce_k 0 rfl) rfl (lv_at hl 1 rfl) ?_
  refine lv_ifnonnull (tgt := 9) hx hb (dc tbJ5_append_cf1ce_k 1 rfl) rfl ?_
  refine lv_aload_n hx hb (dc tbJ5_append_cf1ce_k 5 rfl) rfl (lv_at hl 1 rfl) ?_
  obtain ⟨r2, q1, hf⟩ := cap_s hf
  refine g_callTi hx hb hml hown hts hK hap hsx hI (tJ0_length_8abf5 l hk0 q1 H.size) cv_J0_length_8abf5 q_t4_55 rfl rfl ⟨Nat.le_of_ble_eq_true rfl, Nat.le_of_ble_eq_true rfl⟩ hk0 rfl hl.1 rfl (Nat.le_of_ble_eq_true rfl) (dc tbJ5_append_cf1ce_k 6 rfl) ⟨Nat.le_of_ble_eq_true rfl, Nat.le_of_ble_eq_true rfl⟩ (fun H locs hI => ?_)
  refine lv_istore_n (lv' := [(2, .int r2), (0, .ref (ad 133)), (1, .ref (G.2.2 (100 + k0)))]) hx hb (dc tbJ5_append_cf1ce_k 7 rfl) rfl hl (by decide) rfl (fun ls hl => ?_)
  refine lv_aload_n hx hb (dc tbJ5_append_cf1ce_k 8 rfl) rfl (lv_at hl 1 rfl) ?_
  refine lv_aload_n hx hb (dc tbJ5_append_cf1ce_k 9 rfl) rfl (lv_at hl 1 rfl) ?_
  refine ggSB_3 hx hb hts hown hK hI hS.1 q_t2_72 (dc tbJ5_append_cf1ce_k 10 rfl) ?_
  refine lv_iload_n hx hb (dc tbJ5_append_cf1ce_k 11 rfl) rfl (lv_at hl 0 rfl) ?_
  refine lv_iadd hx hb (dc tbJ5_append_cf1ce_k 12 rfl) ?_
  obtain ⟨M6, r5, q4, hf⟩ := cal_s hf
  refine g_callURv (n := 1) hx hb hml hown hts hK hap hsx hI (tJ5_ensureCapacityInternal_d00df l  hS hL q4 H.size) q_t3_235 q_t10_25 q_t3_237 q_t1_7 q_t3_238 q_wk_0 (by decide +kernel) rfl rfl ⟨Nat.le_of_ble_eq_true rfl, Nat.le_of_ble_eq_true rfl⟩ hS.1 (by simp) rfl rfl rfl hl.1 rfl (Nat.le_of_ble_eq_true rfl) (dc tbJ5_append_cf1ce_k 13 rfl) ⟨Nat.le_of_ble_eq_true rfl, Nat.le_of_ble_eq_true rfl⟩ (fun kd1 ad1 H locs hE1 hL1 hS1 hap1 hI => ?_)
  have e0_ : ad1 133 = ad 133 := (hE1.1 133 (by rw [hS.1]; simp)).2
  have hl1 : lv_has ls 3 [(2, .int r2), (0, .ref (ad1 133)), (1, .ref (G.2.2 (100 + k0)))] := by simp only [e0_]; exact hl
  try simp only [← e0_]
  have hE_ := hE.trans hE1 (Nat.le_refl _)
  have C_ := C.ext hE1 hap1
  clear hE1 e0_
  revert kd1 ad1
  intro kd ad hL hS hap hI hl  hE C
  obtain ⟨hx, hb, hml, hr, hown, hts, hlk, hK, hap, hsx⟩ := id C
  refine lv_aload_n hx hb (dc tbJ5_append_cf1ce_k 14 rfl) rfl (lv_at hl 1 rfl) ?_
  refine lv_aload_n hx hb (dc tbJ5_append_cf1ce_k 15 rfl) rfl (lv_at hl 1 rfl) ?_
  refine ggSB_3 hx hb hts hown hK hI hS.1 q_t2_72 (dc tbJ5_append_cf1ce_k 16 rfl) ?_
  refine lv_aload_n hx hb (dc tbJ5_append_cf1ce_k 17 rfl) rfl (lv_at hl 2 rfl) ?_
  obtain ⟨M9, r8, q7, hf⟩ := cal_s hf
  refine g_callUv (n := 2) hx hb hml hown hts hK hap hsx hI (tJ5_putStringAt_47b60 l hk0 hS q7 H.size) q_t4_64 q_t10_27 q_t4_66 q_t1_7 q_t4_67 q_wk_3 (by decide +kernel) rfl rfl ⟨Nat.le_of_ble_eq_true rfl, Nat.le_of_ble_eq_true rfl⟩ hS.1 (by simp) rfl rfl rfl hl.1 rfl (Nat.le_of_ble_eq_true rfl) (dc tbJ5_append_cf1ce_k 18 rfl) ⟨Nat.le_of_ble_eq_true rfl, Nat.le_of_ble_eq_true rfl⟩ (fun H locs hI => ?_)
  refine lv_aload_n hx hb (dc tbJ5_append_cf1ce_k 19 rfl) rfl (lv_at hl 1 rfl) ?_
  refine lv_dup hx hb (dc tbJ5_append_cf1ce_k 20 rfl) rfl ?_
  refine ggSB_3 hx hb hts hown hK hI hS.1 q_t2_72 (dc tbJ5_append_cf1ce_k 21 rfl) ?_
  refine lv_iload_n hx hb (dc tbJ5_append_cf1ce_k 22 rfl) rfl (lv_at hl 0 rfl) ?_
  refine lv_iadd hx hb (dc tbJ5_append_cf1ce_k 23 rfl) ?_
  obtain ⟨M10, e11, hf⟩ := bnd_s hf
  refine gpSB_3 hx hb hts hown hK hap hI hS.1 q_t2_72 (dc tbJ5_append_cf1ce_k 24 rfl) e11 (fun H locs hI => ?_)
  refine lv_aload_n hx hb (dc tbJ5_append_cf1ce_k 25 rfl) rfl (lv_at hl 1 rfl) ?_
  obtain ⟨h12, hf⟩ := chk_s hf
  rw [← of_decide_eq_true h12] at hS
  cases hf
  exact g_aretR hx hb hr (Or.inl ⟨_, rfl⟩) hlk hE hL hS hap hI (dc tbJ5_append_cf1ce_k 26 rfl)
def mJ4_append_cf468 (x1 : Int32) (M : Mem) : Option (Mem × Unit) := cal (mJ5_append_3fe6f x1 M) (fun M3 _ => some (M3, ()))
set_option maxHeartbeats 4000000 in
set_option maxRecDepth 100000 in
theorem tJ4_append_cf468 (l : Launch) {G : GT} {kd : Nat → Nat × Nat} {ad : Nat → Nat} {M : Mem} (hS : Sb kd (rd M 133 0)) (hL : Low kd) {x1 : Int32} {MO : Mem} {vo : Unit} (hf : mJ4_append_cf468  x1 M = some (MO, vo)) (n : Nat) : Met l yJ4_append_cf468 (Cond.code yJ4_append_cf468 cJ4_append_cf468 2 (some (.object "java/lang/StringBuilder")) :: WA) (rmO 5 1 70) (Pg G kd ad n [.ref (ad 133), .int x1] M) (Qr G kd ad n MO (some (.ref (ad 133)))) 1 70 (AS kd ad n) := by
  refine g_bodyR (own := RJ4) (by decide) rfl ?_ (Nat.le_of_ble_eq_true rfl)
  intro p e s m args below meth c C _ H locs ls hI hl
  obtain ⟨hx, hb, hml, hr, hown, hts, hlk, hK, hap, hsx⟩ := id C
  have hl : lv_has ls 2 [(0, .ref (ad 133)), (1, .int x1)] := hl
  have hE : Ext kd ad kd ad s.heap.size := Ext.refl
  unfold mJ4_append_cf468 at hf
  refine lv_aload_n hx hb (dc tbJ4_append_cf468_k 0 rfl) rfl (lv_at hl 0 rfl) ?_
  refine lv_iload_n hx hb (dc tbJ4_append_cf468_k 1 rfl) rfl (lv_at hl 1 rfl) ?_
  obtain ⟨M3, r2, q1, hf⟩ := cal_s hf
  refine g_callSURa (n := 1) hx hb hml hown hts hK hap hsx hI (tJ5_append_3fe6f l  hS hL q1 H.size) q_t5_76 q_t10_32 q_t5_77 q_t1_7 q_t5_78 q_t2_81 (by decide +kernel) rfl rfl ⟨Nat.le_of_ble_eq_true rfl, Nat.le_of_ble_eq_true rfl⟩ hS.1 (by simp) rfl rfl rfl hl.1 rfl (Nat.le_of_ble_eq_true rfl) (dc tbJ4_append_cf468_k 2 rfl) ⟨Nat.le_of_ble_eq_true rfl, Nat.le_of_ble_eq_true rfl⟩ (fun kd1 ad1 H locs hE1 hL1 hS1 hap1 hI => ?_)
  have e0_ : ad1 133 = ad 133 := (hE1.1 133 (by rw [hS.1]; simp)).2
  have hl1 : lv_has ls 2 [(0, .ref (ad1 133)), (1, .int x1)] := by simp only [e0_]; exact hl
  try simp only [← e0_]
  have hE_ := hE.trans hE1 (Nat.le_refl _)
  have C_ := C.ext hE1 hap1
  clear hE1 e0_
  revert kd1 ad1
  intro kd ad hL hS hap hI hl  hE C
  obtain ⟨hx, hb, hml, hr, hown, hts, hlk, hK, hap, hsx⟩ := id C
  refine lv_pop hx hb (dc tbJ4_append_cf468_k 3 rfl) rfl ?_
  refine lv_aload_n hx hb (dc tbJ4_append_cf468_k 4 rfl) rfl (lv_at hl 0 rfl) ?_
  cases hf
  exact g_aretR hx hb hr (Or.inl ⟨_, rfl⟩) hlk hE hL hS hap hI (dc tbJ4_append_cf468_k 5 rfl)
theorem cv_J4_append_cf468 : cvF RJ4 yJ4_append_cf468 cJ4_append_cf468 2 (some (.object "java/lang/StringBuilder")) 1 := ⟨q_t5_73, q_t5_74, q_t1_8, q_t5_75, by decide +kernel⟩
def mJ4_append_bf812 (x1 : Int32) (M : Mem) : Option (Mem × Unit) := cal (mJ5_append_c97b9 x1 M) (fun M3 _ => some (M3, ()))
set_option maxHeartbeats 4000000 in
set_option maxRecDepth 100000 in
theorem tJ4_append_bf812 (l : Launch) {G : GT} {kd : Nat → Nat × Nat} {ad : Nat → Nat} {M : Mem} (hS : Sb kd (rd M 133 0)) (hL : Low kd) {x1 : Int32} {MO : Mem} {vo : Unit} (hf : mJ4_append_bf812  x1 M = some (MO, vo)) (n : Nat) : Met l yJ4_append_bf812 (Cond.code yJ4_append_bf812 cJ4_append_bf812 2 (some (.object "java/lang/StringBuilder")) :: WA) (rmO 5 1 70) (Pg G kd ad n [.ref (ad 133), .int x1] M) (Qr G kd ad n MO (some (.ref (ad 133)))) 1 70 (AS kd ad n) := by
  refine g_bodyR (own := RJ4) (by decide) rfl ?_ (Nat.le_of_ble_eq_true rfl)
  intro p e s m args below meth c C _ H locs ls hI hl
  obtain ⟨hx, hb, hml, hr, hown, hts, hlk, hK, hap, hsx⟩ := id C
  have hl : lv_has ls 2 [(0, .ref (ad 133)), (1, .int x1)] := hl
  have hE : Ext kd ad kd ad s.heap.size := Ext.refl
  unfold mJ4_append_bf812 at hf
  refine lv_aload_n hx hb (dc tbJ4_append_bf812_k 0 rfl) rfl (lv_at hl 0 rfl) ?_
  refine lv_iload_n hx hb (dc tbJ4_append_bf812_k 1 rfl) rfl (lv_at hl 1 rfl) ?_
  obtain ⟨M3, r2, q1, hf⟩ := cal_s hf
  refine g_callSURa (n := 1) hx hb hml hown hts hK hap hsx hI (tJ5_append_c97b9 l  hS hL q1 H.size) q_t4_102 q_t10_30 q_t4_103 q_t1_7 q_t4_104 q_t2_81 (by decide +kernel) rfl rfl ⟨Nat.le_of_ble_eq_true rfl, Nat.le_of_ble_eq_true rfl⟩ hS.1 (by simp) rfl rfl rfl hl.1 rfl (Nat.le_of_ble_eq_true rfl) (dc tbJ4_append_bf812_k 2 rfl) ⟨Nat.le_of_ble_eq_true rfl, Nat.le_of_ble_eq_true rfl⟩ (fun kd1 ad1 H locs hE1 hL1 hS1 hap1 hI => ?_)
  have e0_ : ad1 133 = ad 133 := (hE1.1 133 (by rw [hS.1]; simp)).2
  have hl1 : lv_has ls 2 [(0, .ref (ad1 133)), (1, .int x1)] := by simp only [e0_]; exact hl
  try simp only [← e0_]
  have hE_ := hE.trans hE1 (Nat.le_refl _)
  have C_ := C.ext hE1 hap1
  clear hE1 e0_
  revert kd1 ad1
  intro kd ad hL hS hap hI hl  hE C
  obtain ⟨hx, hb, hml, hr, hown, hts, hlk, hK, hap, hsx⟩ := id C
  refine lv_pop hx hb (dc tbJ4_append_bf812_k 3 rfl) rfl ?_
  refine lv_aload_n hx hb (dc tbJ4_append_bf812_k 4 rfl) rfl (lv_at hl 0 rfl) ?_
  cases hf
  exact g_aretR hx hb hr (Or.inl ⟨_, rfl⟩) hlk hE hL hS hap hI (dc tbJ4_append_bf812_k 5 rfl)
theorem cv_J4_append_bf812 : cvF RJ4 yJ4_append_bf812 cJ4_append_bf812 2 (some (.object "java/lang/StringBuilder")) 1 := ⟨q_t4_99, q_t4_100, q_t1_8, q_t4_101, by decide +kernel⟩
def mJ4_append_15ec4 (k0 : Nat) (M : Mem) : Option (Mem × Unit) := cal (mJ5_append_cf1ce k0 M) (fun M3 _ => some (M3, ()))
set_option maxHeartbeats 4000000 in
set_option maxRecDepth 100000 in
theorem tJ4_append_15ec4 (l : Launch) {G : GT} {kd : Nat → Nat × Nat} {ad : Nat → Nat} {M : Mem} {k0 : Nat} (hk0 : k0 < 12) (hS : Sb kd (rd M 133 0)) (hL : Low kd) {MO : Mem} {vo : Unit} (hf : mJ4_append_15ec4 k0 M = some (MO, vo)) (n : Nat) : Met l yJ4_append_15ec4 (Cond.code yJ4_append_15ec4 cJ4_append_15ec4 2 (some (.object "java/lang/StringBuilder")) :: WA) (rmO 5 1 70) (Pg G kd ad n [.ref (ad 133), .ref (G.2.2 (100 + k0))] M) (Qr G kd ad n MO (some (.ref (ad 133)))) 1 70 (AS kd ad n) := by
  refine g_bodyR (own := RJ4) (by decide) rfl ?_ (Nat.le_of_ble_eq_true rfl)
  intro p e s m args below meth c C _ H locs ls hI hl
  obtain ⟨hx, hb, hml, hr, hown, hts, hlk, hK, hap, hsx⟩ := id C
  have hl : lv_has ls 2 [(0, .ref (ad 133)), (1, .ref (G.2.2 (100 + k0)))] := hl
  have hE : Ext kd ad kd ad s.heap.size := Ext.refl
  unfold mJ4_append_15ec4 at hf
  refine lv_aload_n hx hb (dc tbJ4_append_15ec4_k 0 rfl) rfl (lv_at hl 0 rfl) ?_
  refine lv_aload_n hx hb (dc tbJ4_append_15ec4_k 1 rfl) rfl (lv_at hl 1 rfl) ?_
  obtain ⟨M3, r2, q1, hf⟩ := cal_s hf
  refine g_callSURa (n := 1) hx hb hml hown hts hK hap hsx hI (tJ5_append_cf1ce l hk0 hS hL q1 H.size) q_t3_228 q_t10_23 q_t3_229 q_t1_7 q_t3_230 q_t2_81 (by decide +kernel) rfl rfl ⟨Nat.le_of_ble_eq_true rfl, Nat.le_of_ble_eq_true rfl⟩ hS.1 (by simp) rfl rfl rfl hl.1 rfl (Nat.le_of_ble_eq_true rfl) (dc tbJ4_append_15ec4_k 2 rfl) ⟨Nat.le_of_ble_eq_true rfl, Nat.le_of_ble_eq_true rfl⟩ (fun kd1 ad1 H locs hE1 hL1 hS1 hap1 hI => ?_)
  have e0_ : ad1 133 = ad 133 := (hE1.1 133 (by rw [hS.1]; simp)).2
  have hl1 : lv_has ls 2 [(0, .ref (ad1 133)), (1, .ref (G.2.2 (100 + k0)))] := by simp only [e0_]; exact hl
  try simp only [← e0_]
  have hE_ := hE.trans hE1 (Nat.le_refl _)
  have C_ := C.ext hE1 hap1
  clear hE1 e0_
  revert kd1 ad1
  intro kd ad hL hS hap hI hl  hE C
  obtain ⟨hx, hb, hml, hr, hown, hts, hlk, hK, hap, hsx⟩ := id C
  refine lv_pop hx hb (dc tbJ4_append_15ec4_k 3 rfl) rfl ?_
  refine lv_aload_n hx hb (dc tbJ4_append_15ec4_k 4 rfl) rfl (lv_at hl 0 rfl) ?_
  cases hf
  exact g_aretR hx hb hr (Or.inl ⟨_, rfl⟩) hlk hE hL hS hap hI (dc tbJ4_append_15ec4_k 5 rfl)
theorem cv_J4_append_15ec4 : cvF RJ4 yJ4_append_15ec4 cJ4_append_15ec4 2 (some (.object "java/lang/StringBuilder")) 1 := ⟨q_t3_225, q_t3_226, q_t1_8, q_t3_227, by decide +kernel⟩
def mJ5_charAt_5068e (x1 : Int32) (M : Mem) : Option Int32 := bnd ((rd M 133 1)) (fun x2_4 => bnd ((imin (rd M 133 3) ((Int32.ofNat (sbn (rd M 133 0))) >>> (x2_4 &&& 31)))) (fun x4_21 => cap (mJ0_checkIndex_df160 x1 x4_21 M) (fun r5 => ite2 (x2_4 = 0) (chk (okb x1 (sbn (rd M 133 0))) (chk (isC ((((rd M (sbv 133 (rd M 133 0)) (x1).toNatClampNeg) &&& (255 : Int32))).toUInt32 % 65536).toInt32) (some ((((rd M (sbv 133 (rd M 133 0)) (x1).toNatClampNeg) &&& (255 : Int32))).toUInt32 % 65536).toInt32))) (none))))
set_option maxHeartbeats 4000000 in
set_option maxRecDepth 100000 in
theorem tJ5_charAt_5068e (l : Launch) {G : GT} {kd : Nat → Nat × Nat} {ad : Nat → Nat} {M : Mem} (hS : Sb kd (rd M 133 0)) {x1 : Int32} {vo : Int32} (hf : mJ5_charAt_5068e  x1 M = some vo) (n : Nat) : Met l yJ5_charAt_5068e (Cond.code yJ5_charAt_5068e cJ5_charAt_5068e 5 (some .char) :: WA) (rmO 2 0 0) (Pg G kd ad n [.ref (ad 133), .int x1] M) (Qg G kd ad n M (some (.int vo))) 0 0 (AS kd ad n) := by
  refine g_body (own := RJ5) (by decide) rfl ?_ (Nat.le_of_ble_eq_true rfl)
  intro p e s m args below meth c C _ H locs ls hI hl
  obtain ⟨hx, hb, hml, hr, hown, hts, hlk, hK, hap, hsx⟩ := id C
  have hl : lv_has ls 5 [(0, .ref (ad 133)), (1, .int x1)] := hl
  unfold mJ5_charAt_5068e at hf
  refine lv_aload_n hx hb (dc tbJ5_charAt_5068e_k 0 rfl) rfl (lv_at hl 0 rfl) ?_
  refine ggSB_1 hx hb hts hown hK hI hS.1 q_t2_69 (dc tbJ5_charAt_5068e_k 1 rfl) ?_
  obtain ⟨x2_4, e1, hf⟩ := bnd_s hf
  refine lv_ei e1 ?_
  refine lv_istore_n (lv' := [(2, .int x2_4), (0, .ref (ad 133)), (1, .int x1)]) hx hb (dc tbJ5_charAt_5068e_k 2 rfl) rfl hl (by decide) rfl (fun ls hl => ?_)
  refine lv_aload_n hx hb (dc tbJ5_charAt_5068e_k 3 rfl) rfl (lv_at hl 1 rfl) ?_
  refine ggSB_0 hx hb hts hown hK hI hS.1 q_t2_68 (dc tbJ5_charAt_5068e_k 4 rfl) ?_
  refine lv_astore_n (lv' := [(3, .ref (ad (sbv 133 (rd M 133 0)))), (2, .int x2_4), (0, .ref (ad 133)), (1, .int x1)]) hx hb (dc tbJ5_charAt_5068e_k 5 rfl) rfl hl (by decide) rfl (fun ls hl => ?_)
  refine lv_aload_n hx hb (dc tbJ5_charAt_5068e_k 6 rfl) rfl (lv_at hl 2 rfl) ?_
  refine ggSB_3 hx hb hts hown hK hI hS.1 q_t2_72 (dc tbJ5_charAt_5068e_k 7 rfl) ?_
  refine lv_aload_n hx hb (dc tbJ5_charAt_5068e_k 8 rfl) rfl (lv_at hl 0 rfl) ?_
  refine g_alenB hx hb hK hI hS.2.1 (v := Int32.ofNat (sbn (rd M 133 0))) rfl (dc tbJ5_charAt_5068e_k 9 rfl) ?_
  refine lv_iload_n hx hb (dc tbJ5_charAt_5068e_k 10 rfl) rfl (lv_at hl 1 rfl) ?_
  refine lv_ishr hx hb (dc tbJ5_charAt_5068e_k 11 rfl) ?_
  refine va_mmin hx hb (hml.trans hl.1.symm) hown (hts _ q_t7_56) (hts _ q_t2_200) (hts _ q_t1_22) (hts _ q_t2_201) (Nat.le_of_ble_eq_true rfl) (Nat.le_of_ble_eq_true rfl) (Nat.le_of_ble_eq_true rfl) (Nat.le_of_ble_eq_true rfl) (dc tbJ5_charAt_5068e_k 12 rfl) ?_
  refine lv_et (show (if _ then _ else _) = (imin (rd M 133 3) ((Int32.ofNat (sbn (rd M 133 0))) >>> (x2_4 &&& 31))) from rfl) ?_
  obtain ⟨x4_21, e3, hf⟩ := bnd_s hf
  refine lv_ei e3 ?_
  refine lv_istore (lv' := [(4, .int x4_21), (3, .ref (ad (sbv 133 (rd M 133 0)))), (2, .int x2_4), (0, .ref (ad 133)), (1, .int x1)]) hx hb (dc tbJ5_charAt_5068e_k 13 rfl) hl (by decide) rfl (fun ls hl => ?_)
  refine lv_iload_n hx hb (dc tbJ5_charAt_5068e_k 14 rfl) rfl (lv_at hl 4 rfl) ?_
  refine lv_iload hx hb (dc tbJ5_charAt_5068e_k 15 rfl) (lv_at hl 0 rfl) ?_
  obtain ⟨r5, q4, hf⟩ := cap_s hf
  refine g_callSv hx hb hml hown hts hK hap hsx hI (tJ0_checkIndex_df160 l  q4 H.size) cs_J0_checkIndex_df160 q_t7_57 rfl rfl ⟨Nat.le_of_ble_eq_true rfl, Nat.le_of_ble_eq_true rfl⟩ rfl hl.1 rfl (Nat.le_of_ble_eq_true rfl) (dc tbJ5_charAt_5068e_k 16 rfl) ⟨Nat.le_of_ble_eq_true rfl, Nat.le_of_ble_eq_true rfl⟩ (fun H locs hI => ?_)
  refine lv_iload_n hx hb (dc tbJ5_charAt_5068e_k 17 rfl) rfl (lv_at hl 2 rfl) ?_
  refine lv_if_ne (tgt := 42) hx hb (dc tbJ5_charAt_5068e_k 18 rfl) rfl (fun c7 => ?_) (fun c7 => ?_)
  · have hf := ite_f c7 hf
    refine lv_aload_n hx hb (dc tbJ5_charAt_5068e_k 26 rfl) rfl (lv_at hl 1 rfl) ?_
    refine lv_iload_n hx hb (dc tbJ5_charAt_5068e_k 27 rfl) rfl (lv_at hl 4 rfl) ?_
    cases hf
  · have hf := ite_t c7 hf
    refine lv_aload_n hx hb (dc tbJ5_charAt_5068e_k 19 rfl) rfl (lv_at hl 1 rfl) ?_
    refine lv_iload_n hx hb (dc tbJ5_charAt_5068e_k 20 rfl) rfl (lv_at hl 4 rfl) ?_
    obtain ⟨h8, hf⟩ := chk_s hf
    refine g_bald hx hb hK hI hS.2.1 (okb_in h8) (dc tbJ5_charAt_5068e_k 21 rfl) ?_
    refine lv_sipush (v := 255) hx hb (dc tbJ5_charAt_5068e_k 22 rfl) sp_255 ?_
    refine lv_iand hx hb (dc tbJ5_charAt_5068e_k 23 rfl) ?_
    refine lv_i2c hx hb (dc tbJ5_charAt_5068e_k 24 rfl) rfl ?_
    obtain ⟨h9, hf⟩ := chk_s hf
    cases hf
    exact g_zret hx hb hr hlk hI (isC_n h9) (dc tbJ5_charAt_5068e_k 25 rfl)
def mJ4_charAt_5068e (x1 : Int32) (M : Mem) : Option Int32 := cap (mJ5_charAt_5068e x1 M) (fun r2 => chk (isC r2) (some r2))
set_option maxHeartbeats 4000000 in
set_option maxRecDepth 100000 in
theorem tJ4_charAt_5068e (l : Launch) {G : GT} {kd : Nat → Nat × Nat} {ad : Nat → Nat} {M : Mem} (hS : Sb kd (rd M 133 0)) {x1 : Int32} {vo : Int32} (hf : mJ4_charAt_5068e  x1 M = some vo) (n : Nat) : Met l yJ4_charAt_5068e (Cond.code yJ4_charAt_5068e cJ4_charAt_5068e 2 (some .char) :: WA) (rmO 3 0 0) (Pg G kd ad n [.ref (ad 133), .int x1] M) (Qg G kd ad n M (some (.int vo))) 0 0 (AS kd ad n) := by
  refine g_body (own := RJ4) (by decide) rfl ?_ (Nat.le_of_ble_eq_true rfl)
  intro p e s m args below meth c C _ H locs ls hI hl
  obtain ⟨hx, hb, hml, hr, hown, hts, hlk, hK, hap, hsx⟩ := id C
  have hl : lv_has ls 2 [(0, .ref (ad 133)), (1, .int x1)] := hl
  unfold mJ4_charAt_5068e at hf
  refine lv_aload_n hx hb (dc tbJ4_charAt_5068e_k 0 rfl) rfl (lv_at hl 0 rfl) ?_
  refine lv_iload_n hx hb (dc tbJ4_charAt_5068e_k 1 rfl) rfl (lv_at hl 1 rfl) ?_
  obtain ⟨r2, q1, hf⟩ := cap_s hf
  refine g_callSUi (n := 1) hx hb hml hown hts hK hap hsx hI (tJ5_charAt_5068e l  hS q1 H.size) q_t7_53 q_t10_34 q_t7_54 q_t1_7 q_t7_55 q_t2_81 (by decide +kernel) rfl rfl ⟨Nat.le_of_ble_eq_true rfl, Nat.le_of_ble_eq_true rfl⟩ hS.1 (by simp) rfl rfl rfl hl.1 rfl (Nat.le_of_ble_eq_true rfl) (dc tbJ4_charAt_5068e_k 2 rfl) ⟨Nat.le_of_ble_eq_true rfl, Nat.le_of_ble_eq_true rfl⟩ (fun H locs hI => ?_)
  obtain ⟨h4, hf⟩ := chk_s hf
  cases hf
  exact g_zret hx hb hr hlk hI (isC_n h4) (dc tbJ4_charAt_5068e_k 3 rfl)
theorem cv_J4_charAt_5068e : cvF RJ4 yJ4_charAt_5068e cJ4_charAt_5068e 2 (some .char) 1 := ⟨q_t7_50, q_t7_51, q_t1_8, q_t7_52, by decide +kernel⟩
def mJ5_setLength_d00df (x1 : Int32) (M : Mem) : Option (Mem × Unit) := ite2 (0 ≤ x1) (cal (mJ5_ensureCapacityInternal_d00df x1 M) (fun M4 _ => ite2 (x1 ≤ (rd M4 133 3)) (ite2 ((rd M4 133 3) ≤ x1) (bnd (wr M4 133 3 x1) (fun M7 => chk (decide (rd M7 133 0 = rd M4 133 0)) (some (M7, ())))) (bnd (wr M4 133 2 (1 : Int32)) (fun M10 => bnd (wr M10 133 3 x1) (fun M12 => chk (decide (rd M12 133 0 = rd M4 133 0)) (some (M12, ())))))) (cap (mJ5_isLatin1_aae02 M4) (fun r16 => ite2 (r16 = 0) (none) (none))))) (none)
set_option maxHeartbeats 4000000 in
set_option maxRecDepth 100000 in
theorem tJ5_setLength_d00df (l : Launch) {G : GT} {kd : Nat → Nat × Nat} {ad : Nat → Nat} {M : Mem} (hS : Sb kd (rd M 133 0)) (hL : Low kd) {x1 : Int32} {MO : Mem} {vo : Unit} (hf : mJ5_setLength_d00df  x1 M = some (MO, vo)) (n : Nat) : Met l yJ5_setLength_d00df (Cond.code yJ5_setLength_d00df cJ5_setLength_d00df 2 none :: WA) (rmO 4 1 70) (Pg G kd ad n [.ref (ad 133), .int x1] M) (Qr G kd ad n MO none) 1 70 (AS kd ad n) := by
  refine g_bodyR (own := RJ5) (by decide) rfl ?_ (Nat.le_of_ble_eq_true rfl)
  intro p e s m args below meth c C _ H locs ls hI hl
  obtain ⟨hx, hb, hml, hr, hown, hts, hlk, hK, hap, hsx⟩ := id C
  have hl : lv_has ls 2 [(0, .ref (ad 133)), (1, .int x1)] := hl
  have hE : Ext kd ad kd ad s.heap.size := Ext.refl
  unfold mJ5_setLength_d00df at hf
  refine lv_iload_n hx hb (dc tbJ5_setLength_d00df_0_k 0 rfl) rfl (lv_at hl 1 rfl) ?_
  refine lv_if_ge (tgt := 13) hx hb (dc tbJ5_setLength_d00df_0_k 1 rfl) rfl (fun c1 => ?_) (fun c1 => ?_)
  · have hf := ite_t c1 hf
    refine lv_aload_n hx hb (dc tbJ5_setLength_d00df_0_k 7 rfl) rfl (lv_at hl 0 rfl) ?_
    refine lv_iload_n hx hb (dc tbJ5_setLength_d00df_0_k 8 rfl) rfl (lv_at hl 1 rfl) ?_
    obtain ⟨M4, r3, q2, hf⟩ := cal_s hf
    refine g_callURv (n := 1) hx hb hml hown hts hK hap hsx hI (tJ5_ensureCapacityInternal_d00df l  hS hL q2 H.size) q_t3_235 q_t10_25 q_t3_237 q_t1_7 q_t3_238 q_wk_0 (by decide +kernel) rfl rfl ⟨Nat.le_of_ble_eq_true rfl, Nat.le_of_ble_eq_true rfl⟩ hS.1 (by simp) rfl rfl rfl hl.1 rfl (Nat.le_of_ble_eq_true rfl) (dc tbJ5_setLength_d00df_0_k 9 rfl) ⟨Nat.le_of_ble_eq_true rfl, Nat.le_of_ble_eq_true rfl⟩ (fun kd1 ad1 H locs hE1 hL1 hS1 hap1 hI => ?_)
    have e0_ : ad1 133 = ad 133 := (hE1.1 133 (by rw [hS.1]; simp)).2
    have hl1 : lv_has ls 2 [(0, .ref (ad1 133)), (1, .int x1)] := by simp only [e0_]; exact hl
    try simp only [← e0_]
    have hE_ := hE.trans hE1 (Nat.le_refl _)
    have C_ := C.ext hE1 hap1
    clear hE1 e0_
    revert kd1 ad1
    intro kd ad hL hS hap hI hl  hE C
    obtain ⟨hx, hb, hml, hr, hown, hts, hlk, hK, hap, hsx⟩ := id C
    refine lv_aload_n hx hb (dc tbJ5_setLength_d00df_0_k 10 rfl) rfl (lv_at hl 0 rfl) ?_
    refine ggSB_3 hx hb hts hown hK hI hS.1 q_t2_72 (dc tbJ5_setLength_d00df_0_k 11 rfl) ?_
    refine lv_iload_n hx hb (dc tbJ5_setLength_d00df_0_k 12 rfl) rfl (lv_at hl 1 rfl) ?_
    refine lv_icmp_ge (tgt := 63) hx hb (dc tbJ5_setLength_d00df_0_k 13 rfl) rfl (fun c5 => ?_) (fun c5 => ?_)
    · have hf := ite_t c5 hf
      refine lv_aload_n hx hb (dc tbJ5_setLength_d00df_0_k 31 rfl) rfl (lv_at hl 0 rfl) ?_
      refine ggSB_3 hx hb hts hown hK hI hS.1 q_t2_72 (dc tbJ5_setLength_d00df_0_k 32 rfl) ?_
      refine lv_iload_n hx hb (dc tbJ5_setLength_d00df_0_k 33 rfl) rfl (lv_at hl 1 rfl) ?_
      refine lv_icmp_le (tgt := 76) hx hb (dc tbJ5_setLength_d00df_0_k 34 rfl) rfl (fun c6 => ?_) (fun c6 => ?_)
      · have hf := ite_t c6 hf
        refine lv_aload_n hx hb (dc tbJ5_setLength_d00df_0_k 38 rfl) rfl (lv_at hl 0 rfl) ?_
        refine lv_iload_n hx hb (dc tbJ5_setLength_d00df_0_k 39 rfl) rfl (lv_at hl 1 rfl) ?_
        obtain ⟨M7, e8, hf⟩ := bnd_s hf
        refine gpSB_3 hx hb hts hown hK hap hI hS.1 q_t2_72 (dc tbJ5_setLength_d00df_1_k 0 rfl) e8 (fun H locs hI => ?_)
        obtain ⟨h9, hf⟩ := chk_s hf
        rw [← of_decide_eq_true h9] at hS
        cases hf
        exact g_vretR hx hb hr hlk hE hL hS hap hI (dc tbJ5_setLength_d00df_1_k 1 rfl)
      · have hf := ite_f c6 hf
        refine lv_aload_n hx hb (dc tbJ5_setLength_d00df_0_k 35 rfl) rfl (lv_at hl 0 rfl) ?_
        refine lv_iconst (v := 1) hx hb (dc tbJ5_setLength_d00df_0_k 36 rfl) ic_1 ?_
        obtain ⟨M10, e11, hf⟩ := bnd_s hf
        refine gpSB_2 hx hb hts hown hK hap hI hS.1 q_t2_70 (dc tbJ5_setLength_d00df_0_k 37 rfl) rfl rfl e11 (fun H locs hI => ?_)
        refine lv_aload_n hx hb (dc tbJ5_setLength_d00df_0_k 38 rfl) rfl (lv_at hl 0 rfl) ?_
        refine lv_iload_n hx hb (dc tbJ5_setLength_d00df_0_k 39 rfl) rfl (lv_at hl 1 rfl) ?_
        obtain ⟨M12, e13, hf⟩ := bnd_s hf
        refine gpSB_3 hx hb hts hown hK hap hI hS.1 q_t2_72 (dc tbJ5_setLength_d00df_1_k 0 rfl) e13 (fun H locs hI => ?_)
        obtain ⟨h14, hf⟩ := chk_s hf
        rw [← of_decide_eq_true h14] at hS
        cases hf
        exact g_vretR hx hb hr hlk hE hL hS hap hI (dc tbJ5_setLength_d00df_1_k 1 rfl)
    · have hf := ite_f c5 hf
      refine lv_aload_n hx hb (dc tbJ5_setLength_d00df_0_k 14 rfl) rfl (lv_at hl 0 rfl) ?_
      obtain ⟨r16, q15, hf⟩ := cap_s hf
      refine g_callUi (n := 0) hx hb hml hown hts hK hap hsx hI (tJ5_isLatin1_aae02 l  hS q15 H.size) q_t4_24 q_t4_26 q_t4_25 q_t1_7 q_t4_28 q_t4_27 (by decide +kernel) rfl rfl ⟨Nat.le_of_ble_eq_true rfl, Nat.le_of_ble_eq_true rfl⟩ hS.1 (by simp) rfl rfl rfl hl.1 rfl (Nat.le_of_ble_eq_true rfl) (dc tbJ5_setLength_d00df_0_k 15 rfl) ⟨Nat.le_of_ble_eq_true rfl, Nat.le_of_ble_eq_true rfl⟩ (fun H locs hI => ?_)
      refine lv_if_eq (tgt := 48) hx hb (dc tbJ5_setLength_d00df_0_k 16 rfl) rfl (fun c18 => ?_) (fun c18 => ?_)
      · have hf := ite_t c18 hf
        refine lv_aload_n hx hb (dc tbJ5_setLength_d00df_0_k 24 rfl) rfl (lv_at hl 0 rfl) ?_
        refine ggSB_0 hx hb hts hown hK hI hS.1 q_t2_68 (dc tbJ5_setLength_d00df_0_k 25 rfl) ?_
        refine lv_aload_n hx hb (dc tbJ5_setLength_d00df_0_k 26 rfl) rfl (lv_at hl 0 rfl) ?_
        refine ggSB_3 hx hb hts hown hK hI hS.1 q_t2_72 (dc tbJ5_setLength_d00df_0_k 27 rfl) ?_
        refine lv_iload_n hx hb (dc tbJ5_setLength_d00df_0_k 28 rfl) rfl (lv_at hl 1 rfl) ?_
        cases hf
      · have hf := ite_f c18 hf
        refine lv_aload_n hx hb (dc tbJ5_setLength_d00df_0_k 17 rfl) rfl (lv_at hl 0 rfl) ?_
        refine ggSB_0 hx hb hts hown hK hI hS.1 q_t2_68 (dc tbJ5_setLength_d00df_0_k 18 rfl) ?_
        refine lv_aload_n hx hb (dc tbJ5_setLength_d00df_0_k 19 rfl) rfl (lv_at hl 0 rfl) ?_
        refine ggSB_3 hx hb hts hown hK hI hS.1 q_t2_72 (dc tbJ5_setLength_d00df_0_k 20 rfl) ?_
        refine lv_iload_n hx hb (dc tbJ5_setLength_d00df_0_k 21 rfl) rfl (lv_at hl 1 rfl) ?_
        cases hf
  · have hf := ite_f c1 hf
    cases hf
def mJ4_setLength_d00df (x1 : Int32) (M : Mem) : Option (Mem × Unit) := cal (mJ5_setLength_d00df x1 M) (fun M3 _ => some (M3, ()))
set_option maxHeartbeats 4000000 in
set_option maxRecDepth 100000 in
theorem tJ4_setLength_d00df (l : Launch) {G : GT} {kd : Nat → Nat × Nat} {ad : Nat → Nat} {M : Mem} (hS : Sb kd (rd M 133 0)) (hL : Low kd) {x1 : Int32} {MO : Mem} {vo : Unit} (hf : mJ4_setLength_d00df  x1 M = some (MO, vo)) (n : Nat) : Met l yJ4_setLength_d00df (Cond.code yJ4_setLength_d00df cJ4_setLength_d00df 2 none :: WA) (rmO 5 1 70) (Pg G kd ad n [.ref (ad 133), .int x1] M) (Qr G kd ad n MO none) 1 70 (AS kd ad n) := by
  refine g_bodyR (own := RJ4) (by decide) rfl ?_ (Nat.le_of_ble_eq_true rfl)
  intro p e s m args below meth c C _ H locs ls hI hl
  obtain ⟨hx, hb, hml, hr, hown, hts, hlk, hK, hap, hsx⟩ := id C
  have hl : lv_has ls 2 [(0, .ref (ad 133)), (1, .int x1)] := hl
  have hE : Ext kd ad kd ad s.heap.size := Ext.refl
  unfold mJ4_setLength_d00df at hf
  refine lv_aload_n hx hb (dc tbJ4_setLength_d00df_k 0 rfl) rfl (lv_at hl 0 rfl) ?_
  refine lv_iload_n hx hb (dc tbJ4_setLength_d00df_k 1 rfl) rfl (lv_at hl 1 rfl) ?_
  obtain ⟨M3, r2, q1, hf⟩ := cal_s hf
  refine g_callSURv (n := 1) hx hb hml hown hts hK hap hsx hI (tJ5_setLength_d00df l  hS hL q1 H.size) q_t3_213 q_t10_22 q_t3_214 q_t1_7 q_t3_215 q_t2_81 (by decide +kernel) rfl rfl ⟨Nat.le_of_ble_eq_true rfl, Nat.le_of_ble_eq_true rfl⟩ hS.1 (by simp) rfl rfl rfl hl.1 rfl (Nat.le_of_ble_eq_true rfl) (dc tbJ4_setLength_d00df_k 2 rfl) ⟨Nat.le_of_ble_eq_true rfl, Nat.le_of_ble_eq_true rfl⟩ (fun kd1 ad1 H locs hE1 hL1 hS1 hap1 hI => ?_)
  have e0_ : ad1 133 = ad 133 := (hE1.1 133 (by rw [hS.1]; simp)).2
  have hl1 : lv_has ls 2 [(0, .ref (ad1 133)), (1, .int x1)] := by simp only [e0_]; exact hl
  try simp only [← e0_]
  have hE_ := hE.trans hE1 (Nat.le_refl _)
  have C_ := C.ext hE1 hap1
  clear hE1 e0_
  revert kd1 ad1
  intro kd ad hL hS hap hI hl  hE C
  obtain ⟨hx, hb, hml, hr, hown, hts, hlk, hK, hap, hsx⟩ := id C
  cases hf
  exact g_vretR hx hb hr hlk hE hL hS hap hI (dc tbJ4_setLength_d00df_k 3 rfl)
theorem cv_J4_setLength_d00df : cvF RJ4 yJ4_setLength_d00df cJ4_setLength_d00df 2 none 1 := ⟨q_t3_210, q_t3_211, q_t1_8, q_t3_212, by decide +kernel⟩
def mJ5_length_8abf5 (M : Mem) : Option Int32 := some (rd M 133 3)
set_option maxHeartbeats 4000000 in
set_option maxRecDepth 100000 in
theorem tJ5_length_8abf5 (l : Launch) {G : GT} {kd : Nat → Nat × Nat} {ad : Nat → Nat} {M : Mem} (hS : Sb kd (rd M 133 0)) {vo : Int32} (hf : mJ5_length_8abf5  M = some vo) (n : Nat) : Met l yJ5_length_8abf5 (Cond.code yJ5_length_8abf5 cJ5_length_8abf5 1 (some .int) :: WA) (rmO 0 0 0) (Pg G kd ad n [.ref (ad 133)] M) (Qg G kd ad n M (some (.int vo))) 0 0 (AS kd ad n) := by
  refine g_body (own := RJ5) (by decide) rfl ?_ (Nat.le_of_ble_eq_true rfl)
  intro p e s m args below meth c C _ H locs ls hI hl
  obtain ⟨hx, hb, hml, hr, hown, hts, hlk, hK, hap, hsx⟩ := id C
  have hl : lv_has ls 1 [(0, .ref (ad 133))] := hl
  unfold mJ5_length_8abf5 at hf
  refine lv_aload_n hx hb (dc tbJ5_length_8abf5_k 0 rfl) rfl (lv_at hl 0 rfl) ?_
  refine ggSB_3 hx hb hts hown hK hI hS.1 q_t2_72 (dc tbJ5_length_8abf5_k 1 rfl) ?_
  cases hf
  exact g_iret hx hb hr hlk hI (dc tbJ5_length_8abf5_k 2 rfl)
def mJ4_length_8abf5 (M : Mem) : Option Int32 := cap (mJ5_length_8abf5 M) (fun r2 => some r2)
set_option maxHeartbeats 4000000 in
set_option maxRecDepth 100000 in
theorem tJ4_length_8abf5 (l : Launch) {G : GT} {kd : Nat → Nat × Nat} {ad : Nat → Nat} {M : Mem} (hS : Sb kd (rd M 133 0)) {vo : Int32} (hf : mJ4_length_8abf5  M = some vo) (n : Nat) : Met l yJ4_length_8abf5 (Cond.code yJ4_length_8abf5 cJ4_length_8abf5 1 (some .int) :: WA) (rmO 1 0 0) (Pg G kd ad n [.ref (ad 133)] M) (Qg G kd ad n M (some (.int vo))) 0 0 (AS kd ad n) := by
  refine g_body (own := RJ4) (by decide) rfl ?_ (Nat.le_of_ble_eq_true rfl)
  intro p e s m args below meth c C _ H locs ls hI hl
  obtain ⟨hx, hb, hml, hr, hown, hts, hlk, hK, hap, hsx⟩ := id C
  have hl : lv_has ls 1 [(0, .ref (ad 133))] := hl
  unfold mJ4_length_8abf5 at hf
  refine lv_aload_n hx hb (dc tbJ4_length_8abf5_k 0 rfl) rfl (lv_at hl 0 rfl) ?_
  obtain ⟨r2, q1, hf⟩ := cap_s hf
  refine g_callSUi (n := 0) hx hb hml hown hts hK hap hsx hI (tJ5_length_8abf5 l  hS q1 H.size) q_t4_147 q_t4_143 q_t4_142 q_t1_7 q_t4_148 q_t2_81 (by decide +kernel) rfl rfl ⟨Nat.le_of_ble_eq_true rfl, Nat.le_of_ble_eq_true rfl⟩ hS.1 (by simp) rfl rfl rfl hl.1 rfl (Nat.le_of_ble_eq_true rfl) (dc tbJ4_length_8abf5_k 1 rfl) ⟨Nat.le_of_ble_eq_true rfl, Nat.le_of_ble_eq_true rfl⟩ (fun H locs hI => ?_)
  cases hf
  exact g_iret hx hb hr hlk hI (dc tbJ4_length_8abf5_k 2 rfl)
theorem cv_J4_length_8abf5 : cvF RJ4 yJ4_length_8abf5 cJ4_length_8abf5 1 (some .int) 0 := ⟨q_t4_145, q_t10_33, q_t1_8, q_t4_146, by decide +kernel⟩
def mX6_writeBend_b22 (k0 : Nat) (g : Int32) (x1 : Int32) (y1 : Int32) (M : Mem) : Option (Mem × Unit) := chk (decide (rd M 133 0 = g)) (cal (mJ4_append_cf468 y1 M) (fun M8 _ => ite2 ((((rd M8 5 13) >>> (x1 &&& 31)) &&& (1 : Int32)) = 0) (some (M8, ())) (cal (mJ4_append_cf468 (42 : Int32) M8) (fun M12 _ => some (M12, ())))))
set_option maxHeartbeats 4000000 in
set_option maxRecDepth 100000 in
theorem tX6_writeBend_b22 {p : Program} {l : Launch} {e : Env} {s : State} {m : MethodId} {args : Array Value} {below : List Frame} {meth : Method} {c : Code} {G : GT} {kd : Nat → Nat × Nat} {ad : Nat → Nat} (C : Cx p s m args meth c cX6_writeBend 2 none RX6 G kd ad) {k0 : Nat} {g : Int32} {kd0 : Nat → Nat × Nat} {ad0 : Nat → Nat} (hk0 : kRoot kd k0) (hS : Sb kd g) (hL : Low kd) (hE : Ext kd0 ad0 kd ad s.heap.size) {MO : Mem} {vo : Unit}   : ∀ (x1 : Int32) (y1 : Int32) (M : Mem), mX6_writeBend_b22 k0 g x1 y1 M = some (MO, vo) → At p l e (rmO 6 2 140) s m args below meth c 0 0 (MQ below (Qr G kd0 ad0 s.heap.size MO none) args s 2 140 (AS kd0 ad0 s.heap.size)) G kd ad 2 22 [(0, .ref (ad k0)), (1, .int x1)] [.int y1, .ref (ad 133)] M := by
  intro x1 y1 M hf H locs ls hI hl
  obtain ⟨hx, hb, hml, hr, hown, hts, hlk, hK, hap, hsx⟩ := id C
  unfold mX6_writeBend_b22 at hf
  obtain ⟨h5, hf⟩ := chk_s hf
  obtain ⟨M8, r7, q6, hf⟩ := cal_s hf
  refine g_callVRa hx hb hml hown hts hK hap hsx hI (tJ4_append_cf468 l  (by rw [of_decide_eq_true h5]; exact hS) hL q6 H.size) cv_J4_append_cf468 q_t5_72 rfl rfl ⟨Nat.le_of_ble_eq_true rfl, Nat.le_of_ble_eq_true rfl⟩ hS.1 (by simp) rfl rfl rfl hl.1 rfl (Nat.le_of_ble_eq_true rfl) (dc tbX6_writeBend_k 10 rfl) ⟨Nat.le_of_ble_eq_true rfl, Nat.le_of_ble_eq_true rfl⟩ (fun kd1 ad1 H locs hE1 hL1 hS1 hap1 hI => ?_)
  have e0_ : ad1 133 = ad 133 := (hE1.1 133 (by rw [hS.1]; simp)).2
  have e1_ : ad1 k0 = ad k0 := (hE1.1 k0 (by rw [hk0.1]; simp)).2
  have hl1 : lv_has ls 2 [(0, .ref (ad1 k0)), (1, .int x1)] := by simp only [e0_, e1_]; exact hl
  try simp only [← e0_, ← e1_]
  have hk0_ := kRoot_ext hk0 hE1
  have hE_ := hE.trans hE1 (Nat.le_refl _)
  have C_ := C.ext hE1 hap1
  clear hE1 e0_ e1_
  revert kd1 ad1
  intro kd ad hL hS hap hI hl hk0 hE C
  obtain ⟨hx, hb, hml, hr, hown, hts, hlk, hK, hap, hsx⟩ := id C
  refine lv_pop hx hb (dc tbX6_writeBend_k 11 rfl) rfl ?_
  refine lv_aload_n hx hb (dc tbX6_writeBend_k 12 rfl) rfl (lv_at hl 0 rfl) ?_
  refine gg6_3 hx hb hts hown hK hI hk0.1 q_t2_85 (dc tbX6_writeBend_k 13 rfl) ?_
  refine gg1_13 hx hb hts hown hK hI hk0.2.2.2.1.1 q_t1_128 (dc tbX6_writeBend_k 14 rfl) ?_
  refine lv_iload_n hx hb (dc tbX6_writeBend_k 15 rfl) rfl (lv_at hl 1 rfl) ?_
  refine lv_ishr hx hb (dc tbX6_writeBend_k 16 rfl) ?_
  refine lv_iconst (v := 1) hx hb (dc tbX6_writeBend_k 17 rfl) ic_1 ?_
  refine lv_iand hx hb (dc tbX6_writeBend_k 18 rfl) ?_
  refine lv_if_eq (tgt := 50) hx hb (dc tbX6_writeBend_k 19 rfl) rfl (fun c9 => ?_) (fun c9 => ?_)
  · have hf := ite_t c9 hf
    cases hf
    refine W.widen (k := 2) (n := 140) (Nat.le_of_ble_eq_true rfl) (Nat.le_of_ble_eq_true rfl) ?_
    exact g_vretR hx hb hr hlk hE hL hS hap hI (dc tbX6_writeBend_k 25 rfl)
  · have hf := ite_f c9 hf
    refine lv_aload_n hx hb (dc tbX6_writeBend_k 20 rfl) rfl (lv_at hl 0 rfl) ?_
    refine gg6_8 hx hb hts hown hK hI hk0.1 q_t2_90 (dc tbX6_writeBend_k 21 rfl) ?_
    refine lv_bipush (v := 42) hx hb (dc tbX6_writeBend_k 22 rfl) bp_42 ?_
    obtain ⟨M12, r11, q10, hf⟩ := cal_s hf
    refine g_callVRa hx hb hml hown hts hK hap hsx hI (tJ4_append_cf468 l  hS hL q10 H.size) cv_J4_append_cf468 q_t5_72 rfl rfl ⟨Nat.le_of_ble_eq_true rfl, Nat.le_of_ble_eq_true rfl⟩ hS.1 (by simp) rfl rfl rfl hl.1 rfl (Nat.le_of_ble_eq_true rfl) (dc tbX6_writeBend_k 23 rfl) ⟨Nat.le_of_ble_eq_true rfl, Nat.le_of_ble_eq_true rfl⟩ (fun kd1 ad1 H locs hE1 hL1 hS1 hap1 hI => ?_)
    have e0_ : ad1 133 = ad 133 := (hE1.1 133 (by rw [hS.1]; simp)).2
    have e1_ : ad1 k0 = ad k0 := (hE1.1 k0 (by rw [hk0.1]; simp)).2
    have hl1 : lv_has ls 2 [(0, .ref (ad1 k0)), (1, .int x1)] := by simp only [e0_, e1_]; exact hl
    try simp only [← e0_, ← e1_]
    have hk0_ := kRoot_ext hk0 hE1
    have hE_ := hE.trans hE1 (Nat.le_refl _)
    have C_ := C.ext hE1 hap1
    clear hE1 e0_ e1_
    revert kd1 ad1
    intro kd ad hL hS hap hI hl hk0 hE C
    obtain ⟨hx, hb, hml, hr, hown, hts, hlk, hK, hap, hsx⟩ := id C
    refine lv_pop hx hb (dc tbX6_writeBend_k 24 rfl) rfl ?_
    cases hf
    exact g_vretR hx hb hr hlk hE hL hS hap hI (dc tbX6_writeBend_k 25 rfl)
def mX6_writeBend (k0 : Nat) (x1 : Int32) (M : Mem) : Option (Mem × Unit) := cap (mX1_goesUp 5 x1 M) (fun r2 => ite2 (r2 = 0) (mX6_writeBend_b22 k0 (rd M 133 0) x1 (118 : Int32) M) (mX6_writeBend_b22 k0 (rd M 133 0) x1 (94 : Int32) M))
set_option maxHeartbeats 4000000 in
set_option maxRecDepth 100000 in
theorem tX6_writeBend (l : Launch) {G : GT} {kd : Nat → Nat × Nat} {ad : Nat → Nat} {M : Mem} {k0 : Nat} (hk0 : kRoot kd k0) (hS : Sb kd (rd M 133 0)) (hL : Low kd) {x1 : Int32} {MO : Mem} {vo : Unit} (hf : mX6_writeBend k0 x1 M = some (MO, vo)) (n : Nat) : Met l yX6_writeBend (Cond.code yX6_writeBend cX6_writeBend 2 none :: WA) (rmO 6 2 140) (Pg G kd ad n [.ref (ad k0), .int x1] M) (Qr G kd ad n MO none) 2 140 (AS kd ad n) := by
  refine g_bodyR (own := RX6) (by decide) rfl ?_ (Nat.le_of_ble_eq_true rfl)
  intro p e s m args below meth c C _ H locs ls hI hl
  obtain ⟨hx, hb, hml, hr, hown, hts, hlk, hK, hap, hsx⟩ := id C
  have hl : lv_has ls 2 [(0, .ref (ad k0)), (1, .int x1)] := hl
  have hE : Ext kd ad kd ad s.heap.size := Ext.refl
  unfold mX6_writeBend at hf
  refine lv_aload_n hx hb (dc tbX6_writeBend_k 0 rfl) rfl (lv_at hl 0 rfl) ?_
  refine gg6_8 hx hb hts hown hK hI hk0.1 q_t2_90 (dc tbX6_writeBend_k 1 rfl) ?_
  refine lv_aload_n hx hb (dc tbX6_writeBend_k 2 rfl) rfl (lv_at hl 0 rfl) ?_
  refine gg6_3 hx hb hts hown hK hI hk0.1 q_t2_85 (dc tbX6_writeBend_k 3 rfl) ?_
  refine lv_iload_n hx hb (dc tbX6_writeBend_k 4 rfl) rfl (lv_at hl 1 rfl) ?_
  obtain ⟨r2, q1, hf⟩ := cap_s hf
  refine g_callVi hx hb hml hown hts hK hap hsx hI (tX1_goesUp l hk0.2.2.2.1 q1 H.size) cv_X1_goesUp q_t5_71 rfl rfl ⟨Nat.le_of_ble_eq_true rfl, Nat.le_of_ble_eq_true rfl⟩ hk0.2.2.2.1.1 (by simp) rfl rfl rfl hl.1 rfl (Nat.le_of_ble_eq_true rfl) (dc tbX6_writeBend_k 5 rfl) ⟨Nat.le_of_ble_eq_true rfl, Nat.le_of_ble_eq_true rfl⟩ (fun H locs hI => ?_)
  refine lv_if_eq (tgt := 20) hx hb (dc tbX6_writeBend_k 6 rfl) rfl (fun c4 => ?_) (fun c4 => ?_)
  · have hf := ite_t c4 hf
    refine lv_bipush (v := 118) hx hb (dc tbX6_writeBend_k 9 rfl) bp_118 ?_
    exact tX6_writeBend_b22 C hk0 hS hL hE x1 (118 : Int32) M hf _ _ _ hI (lv_sub hl [0, 1] rfl)
  · have hf := ite_f c4 hf
    refine lv_bipush (v := 94) hx hb (dc tbX6_writeBend_k 7 rfl) bp_94 ?_
    refine lv_goto (tgt := 22) hx hb (dc tbX6_writeBend_k 8 rfl) rfl ?_
    exact tX6_writeBend_b22 C hk0 hS hL hE x1 (94 : Int32) M hf _ _ _ hI (lv_sub hl [0, 1] rfl)
theorem cv_X6_writeBend : cvF RX6 yX6_writeBend cX6_writeBend 2 none 1 := ⟨q_t5_69, q_s2_2, q_t1_1, q_t5_70, by decide +kernel⟩
def mX6_write_b97 (k0 : Nat) (g : Int32) (M : Mem) : Option (Mem × Int32) := chk (decide (rd M 133 0 = g)) (cap (mJ4_length_8abf5 M) (fun r8 => chk (decide (rd M 133 0 = g)) (some (M, r8))))
set_option maxHeartbeats 4000000 in
set_option maxRecDepth 100000 in
theorem tX6_write_b97 {p : Program} {l : Launch} {e : Env} {s : State} {m : MethodId} {args : Array Value} {below : List Frame} {meth : Method} {c : Code} {G : GT} {kd : Nat → Nat × Nat} {ad : Nat → Nat} (C : Cx p s m args meth c cX6_write 2 (some .int) RX6 G kd ad) {k0 : Nat} {g : Int32} {kd0 : Nat → Nat × Nat} {ad0 : Nat → Nat} (hk0 : kRoot kd k0) (hS : Sb kd g) (hL : Low kd) (hE : Ext kd0 ad0 kd ad s.heap.size) {MO : Mem} {vo : Int32}   : ∀  (M : Mem), mX6_write_b97 k0 g M = some (MO, vo) → At p l e (rmO 7 30 2100) s m args below meth c 30 2100 (MQ below (Qr G kd0 ad0 s.heap.size MO (some (.int vo))) args s 30 2100 (AS kd0 ad0 s.heap.size)) G kd ad 2 97 [(0, .ref (ad k0))] [] M := by
  intro M hf H locs ls hI hl
  obtain ⟨hx, hb, hml, hr, hown, hts, hlk, hK, hap, hsx⟩ := id C
  unfold mX6_write_b97 at hf
  refine lv_aload_n hx hb (dc tbX6_write_1_k 8 rfl) rfl (lv_at hl 0 rfl) ?_
  refine gg6_8 hx hb hts hown hK hI hk0.1 q_t2_90 (dc tbX6_write_1_k 9 rfl) ?_
  obtain ⟨h6, hf⟩ := chk_s hf
  obtain ⟨r8, q7, hf⟩ := cap_s hf
  refine g_callVi hx hb hml hown hts hK hap hsx hI (tJ4_length_8abf5 l  (by rw [of_decide_eq_true h6]; exact hS) q7 H.size) cv_J4_length_8abf5 q_t5_97 rfl rfl ⟨Nat.le_of_ble_eq_true rfl, Nat.le_of_ble_eq_true rfl⟩ hS.1 (by simp) rfl rfl rfl hl.1 rfl (Nat.le_of_ble_eq_true rfl) (dc tbX6_write_1_k 10 rfl) ⟨Nat.le_of_ble_eq_true rfl, Nat.le_of_ble_eq_true rfl⟩ (fun H locs hI => ?_)
  obtain ⟨h10, hf⟩ := chk_s hf
  rw [← of_decide_eq_true h10] at hS
  cases hf
  exact g_iretR hx hb hr hlk hE hL hS hap hI (dc tbX6_write_1_k 11 rfl)
def mX6_write_b61 (k0 : Nat) (g : Int32) (M : Mem) : Option (Mem × Int32) := ite2 ((rd M 5 14) ≤ 0) (mX6_write_b97 k0 g M) (chk (decide (rd M 133 0 = g)) (cal (mJ4_append_15ec4 11 M) (fun M14 _ => cap (mX1_sumOfCosts 5 M14) (fun r16 => cal (mJ4_append_bf812 r16 M14) (fun M20 _ => mX6_write_b97 k0 (rd M20 133 0) M20)))))
set_option maxHeartbeats 4000000 in
set_option maxRecDepth 100000 in
theorem tX6_write_b61 {p : Program} {l : Launch} {e : Env} {s : State} {m : MethodId} {args : Array Value} {below : List Frame} {meth : Method} {c : Code} {G : GT} {kd : Nat → Nat × Nat} {ad : Nat → Nat} (C : Cx p s m args meth c cX6_write 2 (some .int) RX6 G kd ad) {k0 : Nat} {g : Int32} {kd0 : Nat → Nat × Nat} {ad0 : Nat → Nat} (hk0 : kRoot kd k0) (hS : Sb kd g) (hL : Low kd) (hE : Ext kd0 ad0 kd ad s.heap.size) {MO : Mem} {vo : Int32}   : ∀  (M : Mem), mX6_write_b61 k0 g M = some (MO, vo) → At p l e (rmO 7 30 2100) s m args below meth c 28 1960 (MQ below (Qr G kd0 ad0 s.heap.size MO (some (.int vo))) args s 30 2100 (AS kd0 ad0 s.heap.size)) G kd ad 2 61 [(0, .ref (ad k0))] [] M := by
  intro M hf H locs ls hI hl
  obtain ⟨hx, hb, hml, hr, hown, hts, hlk, hK, hap, hsx⟩ := id C
  unfold mX6_write_b61 at hf
  refine lv_aload_n hx hb (dc tbX6_write_0_k 32 rfl) rfl (lv_at hl 0 rfl) ?_
  refine gg6_3 hx hb hts hown hK hI hk0.1 q_t2_85 (dc tbX6_write_0_k 33 rfl) ?_
  refine gg1_14 hx hb hts hown hK hI hk0.2.2.2.1.1 q_t1_130 (dc tbX6_write_0_k 34 rfl) ?_
  refine lv_if_le (tgt := 97) hx hb (dc tbX6_write_0_k 35 rfl) rfl (fun c5 => ?_) (fun c5 => ?_)
  · have hf := ite_t c5 hf
    refine W.widen (k := 30) (n := 2100) (by exact Nat.le_of_ble_eq_true rfl) (by exact Nat.le_of_ble_eq_true rfl) ?_
    exact tX6_write_b97 C hk0 hS hL hE M hf _ _ _ hI (lv_sub hl [0] rfl)
  · have hf := ite_f c5 hf
    refine lv_aload_n hx hb (dc tbX6_write_0_k 36 rfl) rfl (lv_at hl 0 rfl) ?_
    refine gg6_8 hx hb hts hown hK hI hk0.1 q_t2_90 (dc tbX6_write_0_k 37 rfl) ?_
    refine g_ldcwS (List.mem_of_getElem? (i := 0) rfl) hx hb hown hsx (dc tbX6_write_0_k 38 rfl) ?_
    obtain ⟨h11, hf⟩ := chk_s hf
    obtain ⟨M14, r13, q12, hf⟩ := cal_s hf
    refine g_callVRa hx hb hml hown hts hK hap hsx hI (tJ4_append_15ec4 l (by decide) (by rw [of_decide_eq_true h11]; exact hS) hL q12 H.size) cv_J4_append_15ec4 q_t5_96 rfl rfl ⟨Nat.le_of_ble_eq_true rfl, Nat.le_of_ble_eq_true rfl⟩ hS.1 (by simp) rfl rfl rfl hl.1 rfl (Nat.le_of_ble_eq_true rfl) (dc tbX6_write_0_k 39 rfl) ⟨Nat.le_of_ble_eq_true rfl, Nat.le_of_ble_eq_true rfl⟩ (fun kd1 ad1 H locs hE1 hL1 hS1 hap1 hI => ?_)
    have e0_ : ad1 133 = ad 133 := (hE1.1 133 (by rw [hS.1]; simp)).2
    have e1_ : ad1 k0 = ad k0 := (hE1.1 k0 (by rw [hk0.1]; simp)).2
    have hl1 : lv_has ls 2 [(0, .ref (ad1 k0))] := by simp only [e0_, e1_]; exact hl
    try simp only [← e0_, ← e1_]
    have hk0_ := kRoot_ext hk0 hE1
    have hE_ := hE.trans hE1 (Nat.le_refl _)
    have C_ := C.ext hE1 hap1
    clear hE1 e0_ e1_
    revert kd1 ad1
    intro kd ad hL hS hap hI hl hk0 hE C
    obtain ⟨hx, hb, hml, hr, hown, hts, hlk, hK, hap, hsx⟩ := id C
    refine lv_pop hx hb (dc tbX6_write_1_k 0 rfl) rfl ?_
    refine lv_aload_n hx hb (dc tbX6_write_1_k 1 rfl) rfl (lv_at hl 0 rfl) ?_
    refine gg6_8 hx hb hts hown hK hI hk0.1 q_t2_90 (dc tbX6_write_1_k 2 rfl) ?_
    refine lv_aload_n hx hb (dc tbX6_write_1_k 3 rfl) rfl (lv_at hl 0 rfl) ?_
    refine gg6_3 hx hb hts hown hK hI hk0.1 q_t2_85 (dc tbX6_write_1_k 4 rfl) ?_
    obtain ⟨r16, q15, hf⟩ := cap_s hf
    refine g_callVi hx hb hml hown hts hK hap hsx hI (tX1_sumOfCosts l hk0.2.2.2.1 q15 H.size) cv_X1_sumOfCosts q_t3_12 rfl rfl ⟨Nat.le_of_ble_eq_true rfl, Nat.le_of_ble_eq_true rfl⟩ hk0.2.2.2.1.1 (by simp) rfl rfl rfl hl.1 rfl (Nat.le_of_ble_eq_true rfl) (dc tbX6_write_1_k 5 rfl) ⟨Nat.le_of_ble_eq_true rfl, Nat.le_of_ble_eq_true rfl⟩ (fun H locs hI => ?_)
    obtain ⟨M20, r19, q18, hf⟩ := cal_s hf
    refine g_callVRa hx hb hml hown hts hK hap hsx hI (tJ4_append_bf812 l  hS hL q18 H.size) cv_J4_append_bf812 q_t5_94 rfl rfl ⟨Nat.le_of_ble_eq_true rfl, Nat.le_of_ble_eq_true rfl⟩ hS.1 (by simp) rfl rfl rfl hl.1 rfl (Nat.le_of_ble_eq_true rfl) (dc tbX6_write_1_k 6 rfl) ⟨Nat.le_of_ble_eq_true rfl, Nat.le_of_ble_eq_true rfl⟩ (fun kd1 ad1 H locs hE1 hL1 hS1 hap1 hI => ?_)
    have e0_ : ad1 133 = ad 133 := (hE1.1 133 (by rw [hS.1]; simp)).2
    have e1_ : ad1 k0 = ad k0 := (hE1.1 k0 (by rw [hk0.1]; simp)).2
    have hl1 : lv_has ls 2 [(0, .ref (ad1 k0))] := by simp only [e0_, e1_]; exact hl
    try simp only [← e0_, ← e1_]
    have hk0_ := kRoot_ext hk0 hE1
    have hE_ := hE.trans hE1 (Nat.le_refl _)
    have C_ := C.ext hE1 hap1
    clear hE1 e0_ e1_
    revert kd1 ad1
    intro kd ad hL hS hap hI hl hk0 hE C
    obtain ⟨hx, hb, hml, hr, hown, hts, hlk, hK, hap, hsx⟩ := id C
    refine lv_pop hx hb (dc tbX6_write_1_k 7 rfl) rfl ?_
    refine W.widen (k := 30) (n := 2100) (by exact Nat.le_of_ble_eq_true rfl) (by exact Nat.le_of_ble_eq_true rfl) ?_
    exact tX6_write_b97 C hk0 hS hL hE M20 hf _ _ _ hI (lv_sub hl [0] rfl)
def mX6_write_b38 (k0 : Nat) (g : Int32) (ih10 : Int32 → Int32 → Mem → Option (Mem × Int32)) (x1 : Int32) (M : Mem) : Option (Mem × Int32) := chk (okb x1 9) (chk (decide (rd M 133 0 = g)) (cal (mJ4_append_bf812 (rd M (5 + 1) (x1).toNatClampNeg) M) (fun M27 _ => bnd (x1 + (1 : Int32)) (fun x1_55 => ih10 (rd M27 133 0) x1_55 M27))))
set_option maxHeartbeats 4000000 in
set_option maxRecDepth 100000 in
theorem tX6_write_b38 {p : Program} {l : Launch} {e : Env} {s : State} {m : MethodId} {args : Array Value} {below : List Frame} {meth : Method} {c : Code} {G : GT} {kd : Nat → Nat × Nat} {ad : Nat → Nat} (C : Cx p s m args meth c cX6_write 2 (some .int) RX6 G kd ad) {k0 : Nat} {g : Int32} {kd0 : Nat → Nat × Nat} {ad0 : Nat → Nat} (hk0 : kRoot kd k0) (hS : Sb kd g) (hL : Low kd) (hE : Ext kd0 ad0 kd ad s.heap.size) {MO : Mem} {vo : Int32} {ih10 : Int32 → Int32 → Mem → Option (Mem × Int32)} (hih10 : ∀ (kd : Nat → Nat × Nat) (ad : Nat → Nat) (C : Cx p s m args meth c cX6_write 2 (some .int) RX6 G kd ad) (hk0 : kRoot kd k0) (g : Int32) (hS : Sb kd g) (hL : Low kd) (hE : Ext kd0 ad0 kd ad s.heap.size), ∀ (x1 : Int32) (M : Mem), ih10 g x1 M = some (MO, vo) → At p l e (rmO 7 30 2100) s m args below meth c (3 * (x1).toNatClampNeg + 1) (210 * (x1).toNatClampNeg + 70) (MQ below (Qr G kd0 ad0 s.heap.size MO (some (.int vo))) args s 30 2100 (AS kd0 ad0 s.heap.size)) G kd ad 2 10 [(0, .ref (ad k0)), (1, .int x1)] [] M) : ∀ (x1 : Int32) (M : Mem), mX6_write_b38 k0 g ih10 x1 M = some (MO, vo) → At p l e (rmO 7 30 2100) s m args below meth c (3 * (x1).toNatClampNeg + 3) (210 * (x1).toNatClampNeg + 210) (MQ below (Qr G kd0 ad0 s.heap.size MO (some (.int vo))) args s 30 2100 (AS kd0 ad0 s.heap.size)) G kd ad 2 38 [(0, .ref (ad k0)), (1, .int x1)] [] M := by
  intro x1 M hf H locs ls hI hl
  obtain ⟨hx, hb, hml, hr, hown, hts, hlk, hK, hap, hsx⟩ := id C
  unfold mX6_write_b38 at hf
  refine lv_aload_n hx hb (dc tbX6_write_0_k 21 rfl) rfl (lv_at hl 0 rfl) ?_
  refine gg6_8 hx hb hts hown hK hI hk0.1 q_t2_90 (dc tbX6_write_0_k 22 rfl) ?_
  refine lv_aload_n hx hb (dc tbX6_write_0_k 23 rfl) rfl (lv_at hl 0 rfl) ?_
  refine gg6_3 hx hb hts hown hK hI hk0.1 q_t2_85 (dc tbX6_write_0_k 24 rfl) ?_
  refine gg1_1 hx hb hts hown hK hI hk0.2.2.2.1.1 q_t1_107 (dc tbX6_write_0_k 25 rfl) ?_
  refine lv_iload_n hx hb (dc tbX6_write_0_k 26 rfl) rfl (lv_at hl 1 rfl) ?_
  obtain ⟨h23, hf⟩ := chk_s hf
  refine g_iald hx hb hK hI hk0.2.2.2.1.2.1 (okb_in h23) (dc tbX6_write_0_k 27 rfl) ?_
  obtain ⟨h24, hf⟩ := chk_s hf
  obtain ⟨M27, r26, q25, hf⟩ := cal_s hf
  have n8 := i_n9 h23
  refine g_callVRa hx hb hml hown hts hK hap hsx hI (tJ4_append_bf812 l  (by rw [of_decide_eq_true h24]; exact hS) hL q25 H.size) cv_J4_append_bf812 q_t5_94 rfl rfl ⟨Nat.le_of_ble_eq_true rfl, Nat.le_of_ble_eq_true rfl⟩ hS.1 (by simp) rfl rfl rfl hl.1 rfl (Nat.le_of_ble_eq_true rfl) (dc tbX6_write_0_k 28 rfl) ⟨by show (3 * (x1).toNatClampNeg + 3) + 1 ≤ 30; omega, by show (210 * (x1).toNatClampNeg + 210) + 70 ≤ 2100; omega⟩ (fun kd1 ad1 H locs hE1 hL1 hS1 hap1 hI => ?_)
  have e0_ : ad1 133 = ad 133 := (hE1.1 133 (by rw [hS.1]; simp)).2
  have e1_ : ad1 k0 = ad k0 := (hE1.1 k0 (by rw [hk0.1]; simp)).2
  have hl1 : lv_has ls 2 [(0, .ref (ad1 k0)), (1, .int x1)] := by simp only [e0_, e1_]; exact hl
  try simp only [← e0_, ← e1_]
  have hk0_ := kRoot_ext hk0 hE1
  have hE_ := hE.trans hE1 (Nat.le_refl _)
  have C_ := C.ext hE1 hap1
  clear hE1 e0_ e1_
  revert kd1 ad1
  intro kd ad hL hS hap hI hl hk0 hE C
  obtain ⟨hx, hb, hml, hr, hown, hts, hlk, hK, hap, hsx⟩ := id C
  refine lv_pop hx hb (dc tbX6_write_0_k 29 rfl) rfl ?_
  obtain ⟨x1_55, e28, hf⟩ := bnd_s hf
  refine lv_iinc (v := x1_55) (lv' := [(1, .int x1_55), (0, .ref (ad k0))]) hx hb (dc tbX6_write_0_k 30 rfl) hl (k := 1) rfl (ii_e e28 ic_1) (by decide) rfl (fun ls hl => ?_)
  refine lv_goto (tgt := 10) hx hb (dc tbX6_write_0_k 31 rfl) rfl ?_
  have q9 : (x1_55).toNatClampNeg = (x1).toNatClampNeg + 1 := by rw [e28]; exact i_s9 h23
  refine W.widen (k := (3 * (x1_55).toNatClampNeg + 1)) (n := (210 * (x1_55).toNatClampNeg + 70)) (by omega) (by omega) ?_
  exact hih10 kd ad C hk0 (rd M27 133 0) hS hL hE x1_55 M27 hf _ _ _ hI (lv_sub hl [1, 0] rfl)
def mX6_write_b10 (k0 : Nat) (g : Int32) (ih10 : Int32 → Int32 → Mem → Option (Mem × Int32)) (x1 : Int32) (M : Mem) : Option (Mem × Int32) := chk (decide ((x1).toNatClampNeg ≤ 9)) (ite2 ((rd M 5 0) ≤ x1) (mX6_write_b61 k0 g M) (ite2 ((9 : Int32) ≤ x1) (mX6_write_b61 k0 g M) (ite2 (x1 ≤ 0) (mX6_write_b38 k0 g ih10 x1 M) (chk (decide (rd M 133 0 = g)) (cal (mX6_writeBend k0 (x1 - (1 : Int32)) M) (fun M32 _ => mX6_write_b38 k0 (rd M32 133 0) ih10 x1 M32))))))
set_option maxHeartbeats 4000000 in
set_option maxRecDepth 100000 in
theorem tX6_write_b10 {p : Program} {l : Launch} {e : Env} {s : State} {m : MethodId} {args : Array Value} {below : List Frame} {meth : Method} {c : Code} {G : GT} {kd : Nat → Nat × Nat} {ad : Nat → Nat} (C : Cx p s m args meth c cX6_write 2 (some .int) RX6 G kd ad) {k0 : Nat} {g : Int32} {kd0 : Nat → Nat × Nat} {ad0 : Nat → Nat} (hk0 : kRoot kd k0) (hS : Sb kd g) (hL : Low kd) (hE : Ext kd0 ad0 kd ad s.heap.size) {MO : Mem} {vo : Int32} {ih10 : Int32 → Int32 → Mem → Option (Mem × Int32)} (hih10 : ∀ (kd : Nat → Nat × Nat) (ad : Nat → Nat) (C : Cx p s m args meth c cX6_write 2 (some .int) RX6 G kd ad) (hk0 : kRoot kd k0) (g : Int32) (hS : Sb kd g) (hL : Low kd) (hE : Ext kd0 ad0 kd ad s.heap.size), ∀ (x1 : Int32) (M : Mem), ih10 g x1 M = some (MO, vo) → At p l e (rmO 7 30 2100) s m args below meth c (3 * (x1).toNatClampNeg + 1) (210 * (x1).toNatClampNeg + 70) (MQ below (Qr G kd0 ad0 s.heap.size MO (some (.int vo))) args s 30 2100 (AS kd0 ad0 s.heap.size)) G kd ad 2 10 [(0, .ref (ad k0)), (1, .int x1)] [] M) : ∀ (x1 : Int32) (M : Mem), mX6_write_b10 k0 g ih10 x1 M = some (MO, vo) → At p l e (rmO 7 30 2100) s m args below meth c (3 * (x1).toNatClampNeg + 1) (210 * (x1).toNatClampNeg + 70) (MQ below (Qr G kd0 ad0 s.heap.size MO (some (.int vo))) args s 30 2100 (AS kd0 ad0 s.heap.size)) G kd ad 2 10 [(0, .ref (ad k0)), (1, .int x1)] [] M := by
  intro x1 M hf H locs ls hI hl
  obtain ⟨hx, hb, hml, hr, hown, hts, hlk, hK, hap, hsx⟩ := id C
  unfold mX6_write_b10 at hf
  obtain ⟨hc9, hf⟩ := chk_s hf
  have hc9 := of_decide_eq_true hc9
  refine lv_iload_n hx hb (dc tbX6_write_0_k 6 rfl) rfl (lv_at hl 1 rfl) ?_
  refine lv_aload_n hx hb (dc tbX6_write_0_k 7 rfl) rfl (lv_at hl 0 rfl) ?_
  refine gg6_3 hx hb hts hown hK hI hk0.1 q_t2_85 (dc tbX6_write_0_k 8 rfl) ?_
  refine gg1_0 hx hb hts hown hK hI hk0.2.2.2.1.1 q_t1_104 (dc tbX6_write_0_k 9 rfl) ?_
  refine lv_icmp_ge (tgt := 61) hx hb (dc tbX6_write_0_k 10 rfl) rfl (fun c4 => ?_) (fun c4 => ?_)
  · have hf := ite_t c4 hf
    refine W.widen (k := 28) (n := 1960) (by omega) (by omega) ?_
    exact tX6_write_b61 C hk0 hS hL hE M hf _ _ _ hI (lv_sub hl [0] rfl)
  · have hf := ite_f c4 hf
    refine lv_iload_n hx hb (dc tbX6_write_0_k 11 rfl) rfl (lv_at hl 1 rfl) ?_
    refine lv_bipush (v := 9) hx hb (dc tbX6_write_0_k 12 rfl) bp_9 ?_
    refine lv_icmp_ge (tgt := 61) hx hb (dc tbX6_write_0_k 13 rfl) rfl (fun c21 => ?_) (fun c21 => ?_)
    · have hf := ite_t c21 hf
      refine W.widen (k := 28) (n := 1960) (by omega) (by omega) ?_
      exact tX6_write_b61 C hk0 hS hL hE M hf _ _ _ hI (lv_sub hl [0] rfl)
    · have hf := ite_f c21 hf
      refine lv_iload_n hx hb (dc tbX6_write_0_k 14 rfl) rfl (lv_at hl 1 rfl) ?_
      refine lv_if_le (tgt := 38) hx hb (dc tbX6_write_0_k 15 rfl) rfl (fun c22 => ?_) (fun c22 => ?_)
      · have hf := ite_t c22 hf
        refine W.widen (k := (3 * (x1).toNatClampNeg + 3)) (n := (210 * (x1).toNatClampNeg + 210)) (by omega) (by omega) ?_
        exact tX6_write_b38 C hk0 hS hL hE hih10 x1 M hf _ _ _ hI (lv_sub hl [0, 1] rfl)
      · have hf := ite_f c22 hf
        refine lv_aload_n hx hb (dc tbX6_write_0_k 16 rfl) rfl (lv_at hl 0 rfl) ?_
        refine lv_iload_n hx hb (dc tbX6_write_0_k 17 rfl) rfl (lv_at hl 1 rfl) ?_
        refine lv_iconst (v := 1) hx hb (dc tbX6_write_0_k 18 rfl) ic_1 ?_
        refine lv_isub hx hb (dc tbX6_write_0_k 19 rfl) ?_
        obtain ⟨h29, hf⟩ := chk_s hf
        obtain ⟨M32, r31, q30, hf⟩ := cal_s hf
        refine g_callVRv hx hb hml hown hts hK hap hsx hI (tX6_writeBend l hk0 (by rw [of_decide_eq_true h29]; exact hS) hL q30 H.size) cv_X6_writeBend q_t5_67 rfl rfl ⟨Nat.le_of_ble_eq_true rfl, Nat.le_of_ble_eq_true rfl⟩ hk0.1 (by simp) rfl rfl rfl hl.1 rfl (Nat.le_of_ble_eq_true rfl) (dc tbX6_write_0_k 20 rfl) ⟨by show (3 * (x1).toNatClampNeg + 1) + 2 ≤ 30; omega, by show (210 * (x1).toNatClampNeg + 70) + 140 ≤ 2100; omega⟩ (fun kd1 ad1 H locs hE1 hL1 hS1 hap1 hI => ?_)
        have e0_ : ad1 k0 = ad k0 := (hE1.1 k0 (by rw [hk0.1]; simp)).2
        have e9_ : ad1 133 = ad 133 := (hE1.1 133 (by rw [hS.1]; simp)).2
        have hl1 : lv_has ls 2 [(0, .ref (ad1 k0)), (1, .int x1)] := by simp only [e0_, e9_]; exact hl
        try simp only [← e0_, ← e9_]
        have hk0_ := kRoot_ext hk0 hE1
        have hE_ := hE.trans hE1 (Nat.le_refl _)
        have C_ := C.ext hE1 hap1
        clear hE1 e0_ e9_
        revert kd1 ad1
        intro kd ad hL hS hap hI hl hk0 hE C
        obtain ⟨hx, hb, hml, hr, hown, hts, hlk, hK, hap, hsx⟩ := id C
        refine W.widen (k := (3 * (x1).toNatClampNeg + 3)) (n := (210 * (x1).toNatClampNeg + 210)) (by omega) (by omega) ?_
        exact tX6_write_b38 C hk0 hS hL hE hih10 x1 M32 hf _ _ _ hI (lv_sub hl [0, 1] rfl)
def mX6_write_l10 (k0 : Nat) : Nat → Int32 → Int32 → Mem → Option (Mem × Int32)
  | 0 => fun _ _ _ => none
  | n + 1 => fun g x1 M => mX6_write_b10 k0 g (mX6_write_l10 k0 n) x1 M 
theorem tX6_write_l10 {p : Program} {l : Launch} {e : Env} {s : State} {m : MethodId} {args : Array Value} {below : List Frame} {meth : Method} {c : Code} {G : GT} {k0 : Nat} {kd0 : Nat → Nat × Nat} {ad0 : Nat → Nat} {MO : Mem} {vo : Int32} : ∀ (fuel : Nat) (kd : Nat → Nat × Nat) (ad : Nat → Nat) (C : Cx p s m args meth c cX6_write 2 (some .int) RX6 G kd ad) (hk0 : kRoot kd k0) (g : Int32) (hS : Sb kd g) (hL : Low kd) (hE : Ext kd0 ad0 kd ad s.heap.size) (x1 : Int32) (M : Mem), mX6_write_l10 k0 fuel g x1 M = some (MO, vo) → At p l e (rmO 7 30 2100) s m args below meth c (3 * (x1).toNatClampNeg + 1) (210 * (x1).toNatClampNeg + 70) (MQ below (Qr G kd0 ad0 s.heap.size MO (some (.int vo))) args s 30 2100 (AS kd0 ad0 s.heap.size)) G kd ad 2 10 [(0, .ref (ad k0)), (1, .int x1)] [] M := by
  intro fuel
  induction fuel with
  | zero => intro kd ad C hk0 g hS hL hE x1 M hf; cases hf
  | succ n IH => intro kd ad C hk0 g hS hL hE; exact tX6_write_b10 C hk0 hS hL hE IH
def mX6_write (k0 : Nat) (M : Mem) : Option (Mem × Int32) := cal (mJ4_setLength_d00df (0 : Int32) M) (fun M3 _ => mX6_write_l10 k0 5000 (rd M3 133 0) (0 : Int32) M3)
set_option maxHeartbeats 4000000 in
set_option maxRecDepth 100000 in
theorem tX6_write (l : Launch) {G : GT} {kd : Nat → Nat × Nat} {ad : Nat → Nat} {M : Mem} {k0 : Nat} (hk0 : kRoot kd k0) (hS : Sb kd (rd M 133 0)) (hL : Low kd) {MO : Mem} {vo : Int32} (hf : mX6_write k0 M = some (MO, vo)) (n : Nat) : Met l yX6_write (Cond.code yX6_write cX6_write 2 (some .int) :: WA) (rmO 7 30 2100) (Pg G kd ad n [.ref (ad k0)] M) (Qr G kd ad n MO (some (.int vo))) 30 2100 (AS kd ad n) := by
  refine g_bodyR (own := RX6) (by decide) rfl ?_ (Nat.le_of_ble_eq_true rfl)
  intro p e s m args below meth c C _ H locs ls hI hl
  obtain ⟨hx, hb, hml, hr, hown, hts, hlk, hK, hap, hsx⟩ := id C
  have hl : lv_has ls 2 [(0, .ref (ad k0))] := hl
  have hE : Ext kd ad kd ad s.heap.size := Ext.refl
  unfold mX6_write at hf
  refine lv_aload_n hx hb (dc tbX6_write_0_k 0 rfl) rfl (lv_at hl 0 rfl) ?_
  refine gg6_8 hx hb hts hown hK hI hk0.1 q_t2_90 (dc tbX6_write_0_k 1 rfl) ?_
  refine lv_iconst (v := 0) hx hb (dc tbX6_write_0_k 2 rfl) ic_0 ?_
  obtain ⟨M3, r2, q1, hf⟩ := cal_s hf
  refine g_callVRv hx hb hml hown hts hK hap hsx hI (tJ4_setLength_d00df l  hS hL q1 H.size) cv_J4_setLength_d00df q_t3_209 rfl rfl ⟨Nat.le_of_ble_eq_true rfl, Nat.le_of_ble_eq_true rfl⟩ hS.1 (by simp) rfl rfl rfl hl.1 rfl (Nat.le_of_ble_eq_true rfl) (dc tbX6_write_0_k 3 rfl) ⟨Nat.le_of_ble_eq_true rfl, Nat.le_of_ble_eq_true rfl⟩ (fun kd1 ad1 H locs hE1 hL1 hS1 hap1 hI => ?_)
  have e0_ : ad1 k0 = ad k0 := (hE1.1 k0 (by rw [hk0.1]; simp)).2
  have e9_ : ad1 133 = ad 133 := (hE1.1 133 (by rw [hS.1]; simp)).2
  have hl1 : lv_has ls 2 [(0, .ref (ad1 k0))] := by simp only [e0_, e9_]; exact hl
  try simp only [← e0_, ← e9_]
  have hk0_ := kRoot_ext hk0 hE1
  have hE_ := hE.trans hE1 (Nat.le_refl _)
  have C_ := C.ext hE1 hap1
  clear hE1 e0_ e9_
  revert kd1 ad1
  intro kd ad hL hS hap hI hl hk0 hE C
  obtain ⟨hx, hb, hml, hr, hown, hts, hlk, hK, hap, hsx⟩ := id C
  refine lv_iconst (v := 0) hx hb (dc tbX6_write_0_k 4 rfl) ic_0 ?_
  refine lv_istore_n (lv' := [(1, .int (0 : Int32)), (0, .ref (ad k0))]) hx hb (dc tbX6_write_0_k 5 rfl) rfl hl (by decide) rfl (fun ls hl => ?_)
  refine W.widen (k := (3 * ((0 : Int32)).toNatClampNeg + 1)) (n := (210 * ((0 : Int32)).toNatClampNeg + 70)) (by omega) (by omega) ?_
  exact tX6_write_l10 5000 kd ad C hk0 (rd M3 133 0) hS hL hE (0 : Int32) M3 hf _ _ _ hI (lv_sub hl [1, 0] rfl)
theorem cv_X6_write : cvF RX6 yX6_write cX6_write 2 (some .int) 0 := ⟨q_t3_206, q_t3_207, q_t1_1, q_t3_208, by decide +kernel⟩
def mX6_written_b15 (k0 : Nat) (g : Int32) (M : Mem) : Option (Mem × (Int32 ⊕ Nat)) := some (M, Sum.inr 1)
set_option maxHeartbeats 4000000 in
set_option maxRecDepth 100000 in
theorem tX6_written_b15 {p : Program} {l : Launch} {e : Env} {s : State} {m : MethodId} {args : Array Value} {below : List Frame} {meth : Method} {c : Code} {G : GT} {kd : Nat → Nat × Nat} {ad : Nat → Nat} (C : Cx p s m args meth c cX6_written 2 (some .char) RX6 G kd ad) (hst : l.stackTraces = false) (htb : ∀ x ∈ c.exceptionTable.toList, False) {k0 : Nat} {g : Int32} (hk0 : kRoot kd k0) (hS : Sb kd g) {MO : Mem} {vo : Int32 ⊕ Nat}   : ∀  (M : Mem), mX6_written_b15 k0 g M = some (MO, vo) → At p l e (rmO 4 1 6) s m args below meth c 0 0 (XQ G kd ad below args s MO (zi vo) 1 6) G kd ad 2 15 [] [] M := by
  intro M hf H locs ls hI hl
  obtain ⟨hx, hb, hml, hr, hown, hts, hlk, hK, hap, hsx⟩ := id C
  unfold mX6_written_b15 at hf
  cases hf
  exact x_throw (text := "there is no such character") (e9 := 1) true hx hb hst hml hown hts hlk hsx htb (by decide +kernel) fit_n q_t6_19 q_t1_21 (by decide +kernel) at_ioo nb_ioo gd_ioo_176 rfl hI hl.1 (dc tbX6_written_k 7 rfl) (dc tbX6_written_k 8 rfl) (dc tbX6_written_k 9 rfl) (dc tbX6_written_k 10 rfl) (dc tbX6_written_k 11 rfl) (Nat.le_of_ble_eq_true rfl) (Nat.le_of_ble_eq_true rfl) ⟨Nat.le_of_ble_eq_true rfl, Nat.le_of_ble_eq_true rfl⟩ (Nat.le_of_ble_eq_true rfl) (Nat.le_of_ble_eq_true rfl)
def mX6_written (k0 : Nat) (x1 : Int32) (M : Mem) : Option (Mem × (Int32 ⊕ Nat)) := ite2 (x1 < 0) (mX6_written_b15 k0 (rd M 133 0) M) (cap (mJ4_length_8abf5 M) (fun r3 => ite2 (x1 < r3) (cap (mJ4_charAt_5068e x1 M) (fun r7 => chk (isC r7) (some (M, Sum.inl r7)))) (mX6_written_b15 k0 (rd M 133 0) M)))
set_option maxHeartbeats 4000000 in
set_option maxRecDepth 100000 in
theorem tX6_written (l : Launch) (hst : l.stackTraces = false) {G : GT} {kd : Nat → Nat × Nat} {ad : Nat → Nat} {M : Mem} {k0 : Nat} (hk0 : kRoot kd k0) (hS : Sb kd (rd M 133 0)) {x1 : Int32} {MO : Mem} {vo : Int32 ⊕ Nat} (hf : mX6_written k0 x1 M = some (MO, vo)) (n : Nat) : vx_Met l yX6_written (Cond.code yX6_written cX6_written 2 (some .char) :: WA) (rmO 4 1 6) (Pg G kd ad n [.ref (ad k0), .int x1] M) (Qx G kd ad n MO (zi vo)) (Xx G kd ad n MO (zi vo)) 1 6 (AS kd ad n) := by
  refine g_bodyX (own := RX6) (by decide) rfl ?_ (Nat.le_of_ble_eq_true rfl)
  intro p e s m args below meth c C htb _ H locs ls hI hl
  obtain ⟨hx, hb, hml, hr, hown, hts, hlk, hK, hap, hsx⟩ := id C
  have hl : lv_has ls 2 [(0, .ref (ad k0)), (1, .int x1)] := hl
  unfold mX6_written at hf
  refine lv_iload_n hx hb (dc tbX6_written_k 0 rfl) rfl (lv_at hl 1 rfl) ?_
  refine lv_if_lt (tgt := 15) hx hb (dc tbX6_written_k 1 rfl) rfl (fun c1 => ?_) (fun c1 => ?_)
  · have hf := ite_t c1 hf
    exact tX6_written_b15 C hst htb hk0 hS M hf _ _ _ hI (lv_sub hl [] rfl)
  · have hf := ite_f c1 hf
    refine lv_iload_n hx hb (dc tbX6_written_k 2 rfl) rfl (lv_at hl 1 rfl) ?_
    refine lv_aload_n hx hb (dc tbX6_written_k 3 rfl) rfl (lv_at hl 0 rfl) ?_
    refine gg6_8 hx hb hts hown hK hI hk0.1 q_t2_90 (dc tbX6_written_k 4 rfl) ?_
    obtain ⟨r3, q2, hf⟩ := cap_s hf
    refine g_callVi hx hb hml hown hts hK hap hsx hI (tJ4_length_8abf5 l  hS q2 H.size) cv_J4_length_8abf5 q_t5_97 rfl rfl ⟨Nat.le_of_ble_eq_true rfl, Nat.le_of_ble_eq_true rfl⟩ hS.1 (by simp) rfl rfl rfl hl.1 rfl (Nat.le_of_ble_eq_true rfl) (dc tbX6_written_k 5 rfl) ⟨Nat.le_of_ble_eq_true rfl, Nat.le_of_ble_eq_true rfl⟩ (fun H locs hI => ?_)
    refine lv_icmp_lt (tgt := 26) hx hb (dc tbX6_written_k 6 rfl) rfl (fun c5 => ?_) (fun c5 => ?_)
    · have hf := ite_t c5 hf
      refine lv_aload_n hx hb (dc tbX6_written_k 12 rfl) rfl (lv_at hl 0 rfl) ?_
      refine gg6_8 hx hb hts hown hK hI hk0.1 q_t2_90 (dc tbX6_written_k 13 rfl) ?_
      refine lv_iload_n hx hb (dc tbX6_written_k 14 rfl) rfl (lv_at hl 1 rfl) ?_
      obtain ⟨r7, q6, hf⟩ := cap_s hf
      refine g_callVi hx hb hml hown hts hK hap hsx hI (tJ4_charAt_5068e l  hS q6 H.size) cv_J4_charAt_5068e q_t7_49 rfl rfl ⟨Nat.le_of_ble_eq_true rfl, Nat.le_of_ble_eq_true rfl⟩ hS.1 (by simp) rfl rfl rfl hl.1 rfl (Nat.le_of_ble_eq_true rfl) (dc tbX6_written_k 15 rfl) ⟨Nat.le_of_ble_eq_true rfl, Nat.le_of_ble_eq_true rfl⟩ (fun H locs hI => ?_)
      obtain ⟨h9, hf⟩ := chk_s hf
      cases hf
      refine W.widen (k := 1) (n := 6) (Nat.le_of_ble_eq_true rfl) (Nat.le_of_ble_eq_true rfl) ?_
      exact x_ret (g_zret hx hb hr hlk hI (isC_n h9) (dc tbX6_written_k 16 rfl))
    · have hf := ite_f c5 hf
      exact tX6_written_b15 C hst htb hk0 hS M hf _ _ _ hI (lv_sub hl [] rfl)
theorem cv_X6_written : cvF RX6 yX6_written cX6_written 2 (some .char) 1 := ⟨q_t7_45, q_t7_46, q_t1_1, q_t7_47, by decide +kernel⟩
