def mX6_append_b40 (k0 : Nat) (ih3 : Int32 → Int32 → Mem → Option (Mem × Unit)) (x1 : Int32) (x2 : Int32) (M : Mem) : Option (Mem × Unit) := bnd (x2 + (-8 : Int32)) (fun x2_40 => ih3 x1 x2_40 M)
set_option maxHeartbeats 4000000 in
set_option maxRecDepth 100000 in
theorem tX6_append_b40 {p : Program} {l : Launch} {e : Env} {s : State} {m : MethodId} {args : Array Value} {below : List Frame} {meth : Method} {c : Code} {G : GT} {kd : Nat → Nat × Nat} {ad : Nat → Nat} (C : Cx p s m args meth c cX6_append 3 none RX6 G kd ad) {k0 : Nat} (hk0 : kRoot kd k0) {MO : Mem} {vo : Unit} {ih3 : Int32 → Int32 → Mem → Option (Mem × Unit)} (hih3 : ∀ (x1 : Int32) (x2 : Int32) (M : Mem), ih3 x1 x2 M = some (MO, vo) → At p l e (rmO 0 0 0) s m args below meth c 0 0 (MQ below (Qg G kd ad s.heap.size MO none) args s 0 0 (AS kd ad s.heap.size)) G kd ad 3 3 [(0, .ref (ad k0)), (1, .int x1), (2, .int x2)] [] M) : ∀ (x1 : Int32) (x2 : Int32) (M : Mem), mX6_append_b40 k0 ih3 x1 x2 M = some (MO, vo) → At p l e (rmO 0 0 0) s m args below meth c 0 0 (MQ below (Qg G kd ad s.heap.size MO none) args s 0 0 (AS kd ad s.heap.size)) G kd ad 3 40 [(0, .ref (ad k0)), (1, .int x1), (2, .int x2)] [] M := by
  intro x1 x2 M hf H locs ls hI hl
  obtain ⟨hx, hb, hml, hr, hown, hts, hlk, hK, hap, hsx⟩ := id C
  unfold mX6_append_b40 at hf
  obtain ⟨x2_40, e3, hf⟩ := bnd_s hf
  refine lv_iinc (v := x2_40) (lv' := [(2, .int x2_40), (0, .ref (ad k0)), (1, .int x1)]) hx hb (dc tbX6_append_k 23 rfl) hl (k := 2) rfl (ii_e e3 ic_m8) (by decide) rfl (fun ls hl => ?_)
  refine lv_goto (tgt := 3) hx hb (dc tbX6_append_k 24 rfl) rfl ?_
  exact hih3 x1 x2_40 M hf _ _ _ hI (lv_sub hl [1, 2, 0] rfl)
def mX6_append_b3 (k0 : Nat) (ih3 : Int32 → Int32 → Mem → Option (Mem × Unit)) (x1 : Int32) (x2 : Int32) (M : Mem) : Option (Mem × Unit) := ite2 (x2 < 0) (some (M, ())) (ite2 ((600 : Int32) ≤ (rd M k0 1)) (mX6_append_b40 k0 ih3 x1 x2 M) (chk (okb (rd M k0 1) 600) (bnd (wr M 1 ((rd M k0 1)).toNatClampNeg (vp_nar .byte ((x1 >>> (x2 &&& 31))).toInt8.toInt32)) (fun M6 => bnd (wr M6 k0 1 ((rd M6 k0 1) + (1 : Int32))) (fun M7 => mX6_append_b40 k0 ih3 x1 x2 M7)))))
set_option maxHeartbeats 4000000 in
set_option maxRecDepth 100000 in
theorem tX6_append_b3 {p : Program} {l : Launch} {e : Env} {s : State} {m : MethodId} {args : Array Value} {below : List Frame} {meth : Method} {c : Code} {G : GT} {kd : Nat → Nat × Nat} {ad : Nat → Nat} (C : Cx p s m args meth c cX6_append 3 none RX6 G kd ad) {k0 : Nat} (hk0 : kRoot kd k0) {MO : Mem} {vo : Unit} {ih3 : Int32 → Int32 → Mem → Option (Mem × Unit)} (hih3 : ∀ (x1 : Int32) (x2 : Int32) (M : Mem), ih3 x1 x2 M = some (MO, vo) → At p l e (rmO 0 0 0) s m args below meth c 0 0 (MQ below (Qg G kd ad s.heap.size MO none) args s 0 0 (AS kd ad s.heap.size)) G kd ad 3 3 [(0, .ref (ad k0)), (1, .int x1), (2, .int x2)] [] M) : ∀ (x1 : Int32) (x2 : Int32) (M : Mem), mX6_append_b3 k0 ih3 x1 x2 M = some (MO, vo) → At p l e (rmO 0 0 0) s m args below meth c 0 0 (MQ below (Qg G kd ad s.heap.size MO none) args s 0 0 (AS kd ad s.heap.size)) G kd ad 3 3 [(0, .ref (ad k0)), (1, .int x1), (2, .int x2)] [] M := by
  intro x1 x2 M hf H locs ls hI hl
  obtain ⟨hx, hb, hml, hr, hown, hts, hlk, hK, hap, hsx⟩ := id C
  unfold mX6_append_b3 at hf
  refine lv_iload_n hx hb (dc tbX6_append_k 2 rfl) rfl (lv_at hl 2 rfl) ?_
  refine lv_if_lt (tgt := 46) hx hb (dc tbX6_append_k 3 rfl) rfl (fun c1 => ?_) (fun c1 => ?_)
  · have hf := ite_t c1 hf
    cases hf
    exact g_vret hx hb hr hlk hI (dc tbX6_append_k 25 rfl)
  · have hf := ite_f c1 hf
    refine lv_aload_n hx hb (dc tbX6_append_k 4 rfl) rfl (lv_at hl 0 rfl) ?_
    refine gg6_1 hx hb hts hown hK hI hk0.1 q_t2_63 (dc tbX6_append_k 5 rfl) ?_
    refine lv_sipush (v := 600) hx hb (dc tbX6_append_k 6 rfl) sp_600 ?_
    refine lv_icmp_ge (tgt := 40) hx hb (dc tbX6_append_k 7 rfl) rfl (fun c2 => ?_) (fun c2 => ?_)
    · have hf := ite_t c2 hf
      exact tX6_append_b40 C hk0 hih3 x1 x2 M hf _ _ _ hI (lv_sub hl [0, 1, 2] rfl)
    · have hf := ite_f c2 hf
      refine lv_aload_n hx hb (dc tbX6_append_k 8 rfl) rfl (lv_at hl 0 rfl) ?_
      refine gg6_0 hx hb hts hown hK hI hk0.1 q_t2_62 (dc tbX6_append_k 9 rfl) ?_
      refine lv_aload_n hx hb (dc tbX6_append_k 10 rfl) rfl (lv_at hl 0 rfl) ?_
      refine gg6_1 hx hb hts hown hK hI hk0.1 q_t2_63 (dc tbX6_append_k 11 rfl) ?_
      refine lv_iload_n hx hb (dc tbX6_append_k 12 rfl) rfl (lv_at hl 1 rfl) ?_
      refine lv_iload_n hx hb (dc tbX6_append_k 13 rfl) rfl (lv_at hl 2 rfl) ?_
      refine lv_ishr hx hb (dc tbX6_append_k 14 rfl) ?_
      refine lv_i2b hx hb (dc tbX6_append_k 15 rfl) rfl ?_
      obtain ⟨h4, hf⟩ := chk_s hf
      obtain ⟨M6, e5, hf⟩ := bnd_s hf
      refine g_bast hx hb hK hap hI hk0.2.1 (okb_in h4) (dc tbX6_append_k 16 rfl) e5 (fun H locs hI => ?_)
      refine lv_aload_n hx hb (dc tbX6_append_k 17 rfl) rfl (lv_at hl 0 rfl) ?_
      refine lv_dup hx hb (dc tbX6_append_k 18 rfl) rfl ?_
      refine gg6_1 hx hb hts hown hK hI hk0.1 q_t2_63 (dc tbX6_append_k 19 rfl) ?_
      refine lv_iconst (v := 1) hx hb (dc tbX6_append_k 20 rfl) ic_1 ?_
      refine lv_iadd hx hb (dc tbX6_append_k 21 rfl) ?_
      obtain ⟨M7, e8, hf⟩ := bnd_s hf
      refine gp6_1 hx hb hts hown hK hap hI hk0.1 q_t2_63 (dc tbX6_append_k 22 rfl) e8 (fun H locs hI => ?_)
      exact tX6_append_b40 C hk0 hih3 x1 x2 M7 hf _ _ _ hI (lv_sub hl [0, 1, 2] rfl)
def mX6_append_l3 (k0 : Nat) : Nat → Int32 → Int32 → Mem → Option (Mem × Unit)
  | 0 => fun _ _ _ => none
  | n + 1 => mX6_append_b3 k0 (mX6_append_l3 k0 n)
theorem tX6_append_l3 {p : Program} {l : Launch} {e : Env} {s : State} {m : MethodId} {args : Array Value} {below : List Frame} {meth : Method} {c : Code} {G : GT} {kd : Nat → Nat × Nat} {ad : Nat → Nat} (C : Cx p s m args meth c cX6_append 3 none RX6 G kd ad) {k0 : Nat} (hk0 : kRoot kd k0) {MO : Mem} {vo : Unit}   : ∀ (fuel : Nat) (x1 : Int32) (x2 : Int32) (M : Mem), mX6_append_l3 k0 fuel x1 x2 M = some (MO, vo) → At p l e (rmO 0 0 0) s m args below meth c 0 0 (MQ below (Qg G kd ad s.heap.size MO none) args s 0 0 (AS kd ad s.heap.size)) G kd ad 3 3 [(0, .ref (ad k0)), (1, .int x1), (2, .int x2)] [] M := by
  intro fuel
  induction fuel with
  | zero => intro x1 x2 M hf; cases hf
  | succ n IH => exact tX6_append_b3 C hk0 IH
def mX6_append (k0 : Nat) (x1 : Int32) (M : Mem) : Option (Mem × Unit) := mX6_append_l3 k0 5000 x1 (24 : Int32) M
set_option maxHeartbeats 4000000 in
set_option maxRecDepth 100000 in
theorem tX6_append (l : Launch) {G : GT} {kd : Nat → Nat × Nat} {ad : Nat → Nat} {k0 : Nat} (hk0 : kRoot kd k0) {x1 : Int32} {M : Mem} {MO : Mem} {vo : Unit} (hf : mX6_append k0 x1 M = some (MO, vo)) (n : Nat) : Met l yX6_append (Cond.code yX6_append cX6_append 3 none :: WA) (rmO 0 0 0) (Pg G kd ad n [.ref (ad k0), .int x1] M) (Qg G kd ad n MO none) 0 0 (AS kd ad n) := by
  refine g_body (own := RX6) (by decide) rfl ?_ (Nat.le_of_ble_eq_true rfl)
  intro p e s m args below meth c C _ H locs ls hI hl
  obtain ⟨hx, hb, hml, hr, hown, hts, hlk, hK, hap, hsx⟩ := id C
  have hl : lv_has ls 3 [(0, .ref (ad k0)), (1, .int x1)] := hl
  unfold mX6_append at hf
  refine lv_bipush (v := 24) hx hb (dc tbX6_append_k 0 rfl) bp_24 ?_
  refine lv_istore_n (lv' := [(2, .int (24 : Int32)), (0, .ref (ad k0)), (1, .int x1)]) hx hb (dc tbX6_append_k 1 rfl) rfl hl (by decide) rfl (fun ls hl => ?_)
  exact tX6_append_l3 C hk0 5000 x1 (24 : Int32) M hf _ _ _ hI (lv_sub hl [1, 2, 0] rfl)
theorem cv_X6_append : cvF RX6 yX6_append cX6_append 3 none 1 := ⟨q_t3_38, q_s1_3, q_t1_1, q_t3_39, by decide +kernel⟩
def mX6_feed (k0 : Nat) (x1 : Int32) (x2 : Int32) (x3 : Int32) (x4 : Int32) (x5 : Int32) (M : Mem) : Option (Mem × Int32) := ite2 (((rd M k0 1) + (20 : Int32)) ≤ (600 : Int32)) (cal (mX6_append k0 x1 M) (fun M4 _ => cal (mX6_append k0 x2 M4) (fun M7 _ => cal (mX6_append k0 x3 M7) (fun M10 _ => cal (mX6_append k0 x4 M10) (fun M13 _ => cal (mX6_append k0 x5 M13) (fun M16 _ => some (M16, (rd M16 k0 1)))))))) (some (M, (-2 : Int32)))
set_option maxHeartbeats 4000000 in
set_option maxRecDepth 100000 in
theorem tX6_feed (l : Launch) {G : GT} {kd : Nat → Nat × Nat} {ad : Nat → Nat} {k0 : Nat} (hk0 : kRoot kd k0) {x1 : Int32} {x2 : Int32} {x3 : Int32} {x4 : Int32} {x5 : Int32} {M : Mem} {MO : Mem} {vo : Int32} (hf : mX6_feed k0 x1 x2 x3 x4 x5 M = some (MO, vo)) (n : Nat) : Met l yX6_feed (Cond.code yX6_feed cX6_feed 6 (some .int) :: WA) (rmO 1 0 0) (Pg G kd ad n [.ref (ad k0), .int x1, .int x2, .int x3, .int x4, .int x5] M) (Qg G kd ad n MO (some (.int vo))) 0 0 (AS kd ad n) := by
  refine g_body (own := RX6) (by decide) rfl ?_ (Nat.le_of_ble_eq_true rfl)
  intro p e s m args below meth c C _ H locs ls hI hl
  obtain ⟨hx, hb, hml, hr, hown, hts, hlk, hK, hap, hsx⟩ := id C
  have hl : lv_has ls 6 [(0, .ref (ad k0)), (1, .int x1), (2, .int x2), (3, .int x3), (4, .int x4), (5, .int x5)] := hl
  unfold mX6_feed at hf
  refine lv_aload_n hx hb (dc tbX6_feed_k 0 rfl) rfl (lv_at hl 0 rfl) ?_
  refine gg6_1 hx hb hts hown hK hI hk0.1 q_t2_63 (dc tbX6_feed_k 1 rfl) ?_
  refine lv_bipush (v := 20) hx hb (dc tbX6_feed_k 2 rfl) bp_20 ?_
  refine lv_iadd hx hb (dc tbX6_feed_k 3 rfl) ?_
  refine lv_sipush (v := 600) hx hb (dc tbX6_feed_k 4 rfl) sp_600 ?_
  refine lv_icmp_le (tgt := 16) hx hb (dc tbX6_feed_k 5 rfl) rfl (fun c1 => ?_) (fun c1 => ?_)
  · have hf := ite_t c1 hf
    refine lv_aload_n hx hb (dc tbX6_feed_k 8 rfl) rfl (lv_at hl 0 rfl) ?_
    refine lv_iload_n hx hb (dc tbX6_feed_k 9 rfl) rfl (lv_at hl 1 rfl) ?_
    obtain ⟨M4, r3, q2, hf⟩ := cal_s hf
    refine g_callVv hx hb hml hown hts hK hap hsx hI (tX6_append l hk0 q2 H.size) cv_X6_append q_t3_36 rfl rfl ⟨Nat.le_of_ble_eq_true rfl, Nat.le_of_ble_eq_true rfl⟩ hk0.1 (by simp) rfl rfl rfl hl.1 rfl (Nat.le_of_ble_eq_true rfl) (dc tbX6_feed_k 10 rfl) ⟨Nat.le_of_ble_eq_true rfl, Nat.le_of_ble_eq_true rfl⟩ (fun H locs hI => ?_)
    refine lv_aload_n hx hb (dc tbX6_feed_k 11 rfl) rfl (lv_at hl 0 rfl) ?_
    refine lv_iload_n hx hb (dc tbX6_feed_k 12 rfl) rfl (lv_at hl 2 rfl) ?_
    obtain ⟨M7, r6, q5, hf⟩ := cal_s hf
    refine g_callVv hx hb hml hown hts hK hap hsx hI (tX6_append l hk0 q5 H.size) cv_X6_append q_t3_36 rfl rfl ⟨Nat.le_of_ble_eq_true rfl, Nat.le_of_ble_eq_true rfl⟩ hk0.1 (by simp) rfl rfl rfl hl.1 rfl (Nat.le_of_ble_eq_true rfl) (dc tbX6_feed_k 13 rfl) ⟨Nat.le_of_ble_eq_true rfl, Nat.le_of_ble_eq_true rfl⟩ (fun H locs hI => ?_)
    refine lv_aload_n hx hb (dc tbX6_feed_k 14 rfl) rfl (lv_at hl 0 rfl) ?_
    refine lv_iload_n hx hb (dc tbX6_feed_k 15 rfl) rfl (lv_at hl 3 rfl) ?_
    obtain ⟨M10, r9, q8, hf⟩ := cal_s hf
    refine g_callVv hx hb hml hown hts hK hap hsx hI (tX6_append l hk0 q8 H.size) cv_X6_append q_t3_36 rfl rfl ⟨Nat.le_of_ble_eq_true rfl, Nat.le_of_ble_eq_true rfl⟩ hk0.1 (by simp) rfl rfl rfl hl.1 rfl (Nat.le_of_ble_eq_true rfl) (dc tbX6_feed_k 16 rfl) ⟨Nat.le_of_ble_eq_true rfl, Nat.le_of_ble_eq_true rfl⟩ (fun H locs hI => ?_)
    refine lv_aload_n hx hb (dc tbX6_feed_k 17 rfl) rfl (lv_at hl 0 rfl) ?_
    refine lv_iload hx hb (dc tbX6_feed_k 18 rfl) (lv_at hl 4 rfl) ?_
    obtain ⟨M13, r12, q11, hf⟩ := cal_s hf
    refine g_callVv hx hb hml hown hts hK hap hsx hI (tX6_append l hk0 q11 H.size) cv_X6_append q_t3_36 rfl rfl ⟨Nat.le_of_ble_eq_true rfl, Nat.le_of_ble_eq_true rfl⟩ hk0.1 (by simp) rfl rfl rfl hl.1 rfl (Nat.le_of_ble_eq_true rfl) (dc tbX6_feed_k 19 rfl) ⟨Nat.le_of_ble_eq_true rfl, Nat.le_of_ble_eq_true rfl⟩ (fun H locs hI => ?_)
    refine lv_aload_n hx hb (dc tbX6_feed_k 20 rfl) rfl (lv_at hl 0 rfl) ?_
    refine lv_iload hx hb (dc tbX6_feed_k 21 rfl) (lv_at hl 5 rfl) ?_
    obtain ⟨M16, r15, q14, hf⟩ := cal_s hf
    refine g_callVv hx hb hml hown hts hK hap hsx hI (tX6_append l hk0 q14 H.size) cv_X6_append q_t3_36 rfl rfl ⟨Nat.le_of_ble_eq_true rfl, Nat.le_of_ble_eq_true rfl⟩ hk0.1 (by simp) rfl rfl rfl hl.1 rfl (Nat.le_of_ble_eq_true rfl) (dc tbX6_feed_k 22 rfl) ⟨Nat.le_of_ble_eq_true rfl, Nat.le_of_ble_eq_true rfl⟩ (fun H locs hI => ?_)
    refine lv_aload_n hx hb (dc tbX6_feed_k 23 rfl) rfl (lv_at hl 0 rfl) ?_
    refine gg6_1 hx hb hts hown hK hI hk0.1 q_t2_63 (dc tbX6_feed_k 24 rfl) ?_
    cases hf
    exact g_iret hx hb hr hlk hI (dc tbX6_feed_k 25 rfl)
  · have hf := ite_f c1 hf
    refine lv_bipush (v := -2) hx hb (dc tbX6_feed_k 6 rfl) bp_m2 ?_
    cases hf
    exact g_iret hx hb hr hlk hI (dc tbX6_feed_k 7 rfl)
theorem cv_X6_feed : cvF RX6 yX6_feed cX6_feed 6 (some .int) 5 := ⟨q_t3_33, q_t3_34, q_t1_1, q_t3_35, by decide +kernel⟩
def mX6_load_b12 (k0 : Nat) (M : Mem) : Option (Mem × (Int32 ⊕ Nat)) := some (M, Sum.inr 0)
set_option maxHeartbeats 4000000 in
set_option maxRecDepth 100000 in
theorem tX6_load_b12 {p : Program} {l : Launch} {e : Env} {s : State} {m : MethodId} {args : Array Value} {below : List Frame} {meth : Method} {c : Code} {G : GT} {kd : Nat → Nat × Nat} {ad : Nat → Nat} (C : Cx p s m args meth c cX6_load 2 (some .int) RX6 G kd ad) (hst : l.stackTraces = false) (htb : ∀ x ∈ c.exceptionTable.toList, False) {k0 : Nat} (hk0 : kRoot kd k0) {MO : Mem} {vo : Int32 ⊕ Nat}   : ∀  (M : Mem), mX6_load_b12 k0 M = some (MO, vo) → At p l e (rmO 8 1 6) s m args below meth c 0 0 (XQ G kd ad below args s MO (zi vo) 1 6) G kd ad 2 12 [] [] M := by
  intro M hf H locs ls hI hl
  obtain ⟨hx, hb, hml, hr, hown, hts, hlk, hK, hap, hsx⟩ := id C
  unfold mX6_load_b12 at hf
  cases hf
  exact x_throw (text := "length is not 0 to the number of bytes in the buffer") (e9 := 0) false hx hb hst hml hown hts hlk hsx htb (by decide +kernel) fit_n q_t3_44 q_t1_21 (by decide +kernel) at_iae nb_iae gd_iae_66 rfl hI hl.1 (dc tbX6_load_k 6 rfl) (dc tbX6_load_k 7 rfl) (dc tbX6_load_k 8 rfl) (dc tbX6_load_k 9 rfl) (dc tbX6_load_k 10 rfl) (Nat.le_of_ble_eq_true rfl) (Nat.le_of_ble_eq_true rfl) ⟨Nat.le_of_ble_eq_true rfl, Nat.le_of_ble_eq_true rfl⟩ (Nat.le_of_ble_eq_true rfl) (Nat.le_of_ble_eq_true rfl)
def mX6_load (k0 : Nat) (x1 : Int32) (M : Mem) : Option (Mem × (Int32 ⊕ Nat)) := ite2 (x1 < 0) (mX6_load_b12 k0 M) (ite2 (x1 ≤ (rd M k0 1)) (bnd (wr M k0 1 (0 : Int32)) (fun M3 => cal (mX4_readText 2 1 13 x1 M3) (fun M7 r6 => ite2 (r6 = 0) (some (M7, Sum.inl (-3 : Int32))) (cal (mX1_copyFrom 5 13 M7) (fun M11 _ => cal (mX0_forgetAll 21 M11) (fun M14 _ => cap (mX1_bendCount 5 M14) (fun r16 => some (M14, Sum.inl r16)))))))) (mX6_load_b12 k0 M))
set_option maxHeartbeats 4000000 in
set_option maxRecDepth 100000 in
theorem tX6_load (l : Launch) (hst : l.stackTraces = false) {G : GT} {kd : Nat → Nat × Nat} {ad : Nat → Nat} {k0 : Nat} (hk0 : kRoot kd k0) {x1 : Int32} {M : Mem} {MO : Mem} {vo : Int32 ⊕ Nat} (hf : mX6_load k0 x1 M = some (MO, vo)) (n : Nat) : vx_Met l yX6_load (Cond.code yX6_load cX6_load 2 (some .int) :: WA) (rmO 8 1 6) (Pg G kd ad n [.ref (ad k0), .int x1] M) (Qx G kd ad n MO (zi vo)) (Xx G kd ad n MO (zi vo)) 1 6 (AS kd ad n) := by
  refine g_bodyX (own := RX6) (by decide) rfl ?_ (Nat.le_of_ble_eq_true rfl)
  intro p e s m args below meth c C htb _ H locs ls hI hl
  obtain ⟨hx, hb, hml, hr, hown, hts, hlk, hK, hap, hsx⟩ := id C
  have hl : lv_has ls 2 [(0, .ref (ad k0)), (1, .int x1)] := hl
  unfold mX6_load at hf
  refine lv_iload_n hx hb (dc tbX6_load_k 0 rfl) rfl (lv_at hl 1 rfl) ?_
  refine lv_if_lt (tgt := 12) hx hb (dc tbX6_load_k 1 rfl) rfl (fun c1 => ?_) (fun c1 => ?_)
  · have hf := ite_t c1 hf
    exact tX6_load_b12 C hst htb hk0 M hf _ _ _ hI (lv_sub hl [] rfl)
  · have hf := ite_f c1 hf
    refine lv_iload_n hx hb (dc tbX6_load_k 2 rfl) rfl (lv_at hl 1 rfl) ?_
    refine lv_aload_n hx hb (dc tbX6_load_k 3 rfl) rfl (lv_at hl 0 rfl) ?_
    refine gg6_1 hx hb hts hown hK hI hk0.1 q_t2_63 (dc tbX6_load_k 4 rfl) ?_
    refine lv_icmp_le (tgt := 22) hx hb (dc tbX6_load_k 5 rfl) rfl (fun c2 => ?_) (fun c2 => ?_)
    · have hf := ite_t c2 hf
      refine lv_aload_n hx hb (dc tbX6_load_k 11 rfl) rfl (lv_at hl 0 rfl) ?_
      refine lv_iconst (v := 0) hx hb (dc tbX6_load_k 12 rfl) ic_0 ?_
      obtain ⟨M3, e4, hf⟩ := bnd_s hf
      refine gp6_1 hx hb hts hown hK hap hI hk0.1 q_t2_63 (dc tbX6_load_k 13 rfl) e4 (fun H locs hI => ?_)
      refine lv_aload_n hx hb (dc tbX6_load_k 14 rfl) rfl (lv_at hl 0 rfl) ?_
      refine gg6_2 hx hb hts hown hK hI hk0.1 q_t2_64 (dc tbX6_load_k 15 rfl) ?_
      refine lv_aload_n hx hb (dc tbX6_load_k 16 rfl) rfl (lv_at hl 0 rfl) ?_
      refine gg6_0 hx hb hts hown hK hI hk0.1 q_t2_62 (dc tbX6_load_k 17 rfl) ?_
      refine lv_iload_n hx hb (dc tbX6_load_k 18 rfl) rfl (lv_at hl 1 rfl) ?_
      refine lv_aload_n hx hb (dc tbX6_load_k 19 rfl) rfl (lv_at hl 0 rfl) ?_
      refine gg6_4 hx hb hts hown hK hI hk0.1 q_t2_66 (dc tbX6_load_k 20 rfl) ?_
      obtain ⟨M7, r6, q5, hf⟩ := cal_s hf
      refine g_callVi hx hb hml hown hts hK hap hsx hI (tX4_readText l hk0.2.2.1 hk0.2.1 hk0.2.2.2.2.1 q5 H.size) cv_X4_readText q_t3_60 rfl rfl ⟨Nat.le_of_ble_eq_true rfl, Nat.le_of_ble_eq_true rfl⟩ hk0.2.2.1.1 (by simp) rfl rfl rfl hl.1 rfl (Nat.le_of_ble_eq_true rfl) (dc tbX6_load_k 21 rfl) ⟨Nat.le_of_ble_eq_true rfl, Nat.le_of_ble_eq_true rfl⟩ (fun H locs hI => ?_)
      refine lv_if_ne (tgt := 49) hx hb (dc tbX6_load_k 22 rfl) rfl (fun c8 => ?_) (fun c8 => ?_)
      · have hf := ite_f c8 hf
        refine lv_aload_n hx hb (dc tbX6_load_k 25 rfl) rfl (lv_at hl 0 rfl) ?_
        refine gg6_3 hx hb hts hown hK hI hk0.1 q_t2_65 (dc tbX6_load_k 26 rfl) ?_
        refine lv_aload_n hx hb (dc tbX6_load_k 27 rfl) rfl (lv_at hl 0 rfl) ?_
        refine gg6_4 hx hb hts hown hK hI hk0.1 q_t2_66 (dc tbX6_load_k 28 rfl) ?_
        obtain ⟨M11, r10, q9, hf⟩ := cal_s hf
        refine g_callVv hx hb hml hown hts hK hap hsx hI (tX1_copyFrom l hk0.2.2.2.1 hk0.2.2.2.2.1 q9 H.size) cv_X1_copyFrom q_t3_180 rfl rfl ⟨Nat.le_of_ble_eq_true rfl, Nat.le_of_ble_eq_true rfl⟩ hk0.2.2.2.1.1 (by simp) rfl rfl rfl hl.1 rfl (Nat.le_of_ble_eq_true rfl) (dc tbX6_load_k 29 rfl) ⟨Nat.le_of_ble_eq_true rfl, Nat.le_of_ble_eq_true rfl⟩ (fun H locs hI => ?_)
        refine lv_aload_n hx hb (dc tbX6_load_k 30 rfl) rfl (lv_at hl 0 rfl) ?_
        refine gg6_5 hx hb hts hown hK hI hk0.1 q_t2_67 (dc tbX6_load_k 31 rfl) ?_
        obtain ⟨M14, r13, q12, hf⟩ := cal_s hf
        refine g_callVv hx hb hml hown hts hK hap hsx hI (tX0_forgetAll l hk0.2.2.2.2.2.1 q12 H.size) cv_X0_forgetAll q_t3_187 rfl rfl ⟨Nat.le_of_ble_eq_true rfl, Nat.le_of_ble_eq_true rfl⟩ hk0.2.2.2.2.2.1.1 (by simp) rfl rfl rfl hl.1 rfl (Nat.le_of_ble_eq_true rfl) (dc tbX6_load_k 32 rfl) ⟨Nat.le_of_ble_eq_true rfl, Nat.le_of_ble_eq_true rfl⟩ (fun H locs hI => ?_)
        refine lv_aload_n hx hb (dc tbX6_load_k 33 rfl) rfl (lv_at hl 0 rfl) ?_
        refine gg6_3 hx hb hts hown hK hI hk0.1 q_t2_65 (dc tbX6_load_k 34 rfl) ?_
        obtain ⟨r16, q15, hf⟩ := cap_s hf
        refine g_callVi hx hb hml hown hts hK hap hsx hI (tX1_bendCount l hk0.2.2.2.1 q15 H.size) cv_X1_bendCount q_t2_106 rfl rfl ⟨Nat.le_of_ble_eq_true rfl, Nat.le_of_ble_eq_true rfl⟩ hk0.2.2.2.1.1 (by simp) rfl rfl rfl hl.1 rfl (Nat.le_of_ble_eq_true rfl) (dc tbX6_load_k 35 rfl) ⟨Nat.le_of_ble_eq_true rfl, Nat.le_of_ble_eq_true rfl⟩ (fun H locs hI => ?_)
        cases hf
        refine W.widen (k := 1) (n := 6) (Nat.le_of_ble_eq_true rfl) (Nat.le_of_ble_eq_true rfl) ?_
        exact x_ret (g_iret hx hb hr hlk hI (dc tbX6_load_k 36 rfl))
      · have hf := ite_t c8 hf
        refine lv_bipush (v := -3) hx hb (dc tbX6_load_k 23 rfl) bp_m3 ?_
        cases hf
        refine W.widen (k := 1) (n := 6) (Nat.le_of_ble_eq_true rfl) (Nat.le_of_ble_eq_true rfl) ?_
        exact x_ret (g_iret hx hb hr hlk hI (dc tbX6_load_k 24 rfl))
    · have hf := ite_f c2 hf
      exact tX6_load_b12 C hst htb hk0 M hf _ _ _ hI (lv_sub hl [] rfl)
theorem cv_X6_load : cvF RX6 yX6_load cX6_load 2 (some .int) 1 := ⟨q_t3_41, q_t3_42, q_t1_1, q_t3_43, by decide +kernel⟩
def mX6_errorKind (k0 : Nat) (M : Mem) : Option Int32 := some (rd M 2 0)
set_option maxHeartbeats 4000000 in
set_option maxRecDepth 100000 in
theorem tX6_errorKind (l : Launch) {G : GT} {kd : Nat → Nat × Nat} {ad : Nat → Nat} {k0 : Nat} (hk0 : kRoot kd k0) {M : Mem} {vo : Int32} (hf : mX6_errorKind k0 M = some vo) (n : Nat) : Met l yX6_errorKind (Cond.code yX6_errorKind cX6_errorKind 1 (some .int) :: WA) (rmO 0 0 0) (Pg G kd ad n [.ref (ad k0)] M) (Qg G kd ad n M (some (.int vo))) 0 0 (AS kd ad n) := by
  refine g_body (own := RX6) (by decide) rfl ?_ (Nat.le_of_ble_eq_true rfl)
  intro p e s m args below meth c C _ H locs ls hI hl
  obtain ⟨hx, hb, hml, hr, hown, hts, hlk, hK, hap, hsx⟩ := id C
  have hl : lv_has ls 1 [(0, .ref (ad k0))] := hl
  unfold mX6_errorKind at hf
  refine lv_aload_n hx hb (dc tbX6_errorKind_k 0 rfl) rfl (lv_at hl 0 rfl) ?_
  refine gg6_2 hx hb hts hown hK hI hk0.1 q_t2_64 (dc tbX6_errorKind_k 1 rfl) ?_
  refine gg4_0 hx hb hts hown hK hI hk0.2.2.1.1 q_t1_41 (dc tbX6_errorKind_k 2 rfl) ?_
  cases hf
  exact g_iret hx hb hr hlk hI (dc tbX6_errorKind_k 3 rfl)
theorem cv_X6_errorKind : cvF RX6 yX6_errorKind cX6_errorKind 1 (some .int) 0 := ⟨q_t2_91, q_t2_92, q_t1_1, q_t2_93, by decide +kernel⟩
def mX6_legs (k0 : Nat) (M : Mem) : Option Int32 := some (rd M 5 0)
set_option maxHeartbeats 4000000 in
set_option maxRecDepth 100000 in
theorem tX6_legs (l : Launch) {G : GT} {kd : Nat → Nat × Nat} {ad : Nat → Nat} {k0 : Nat} (hk0 : kRoot kd k0) {M : Mem} {vo : Int32} (hf : mX6_legs k0 M = some vo) (n : Nat) : Met l yX6_legs (Cond.code yX6_legs cX6_legs 1 (some .int) :: WA) (rmO 0 0 0) (Pg G kd ad n [.ref (ad k0)] M) (Qg G kd ad n M (some (.int vo))) 0 0 (AS kd ad n) := by
  refine g_body (own := RX6) (by decide) rfl ?_ (Nat.le_of_ble_eq_true rfl)
  intro p e s m args below meth c C _ H locs ls hI hl
  obtain ⟨hx, hb, hml, hr, hown, hts, hlk, hK, hap, hsx⟩ := id C
  have hl : lv_has ls 1 [(0, .ref (ad k0))] := hl
  unfold mX6_legs at hf
  refine lv_aload_n hx hb (dc tbX6_legs_k 0 rfl) rfl (lv_at hl 0 rfl) ?_
  refine gg6_3 hx hb hts hown hK hI hk0.1 q_t2_65 (dc tbX6_legs_k 1 rfl) ?_
  refine gg1_0 hx hb hts hown hK hI hk0.2.2.2.1.1 q_t1_100 (dc tbX6_legs_k 2 rfl) ?_
  cases hf
  exact g_iret hx hb hr hlk hI (dc tbX6_legs_k 3 rfl)
theorem cv_X6_legs : cvF RX6 yX6_legs cX6_legs 1 (some .int) 0 := ⟨q_t2_95, q_t2_96, q_t1_1, q_t2_97, by decide +kernel⟩
def mX6_requireBend_b21 (k0 : Nat) (M : Mem) : Option (Mem × (Unit ⊕ Nat)) := some (M, Sum.inr 1)
set_option maxHeartbeats 4000000 in
set_option maxRecDepth 100000 in
theorem tX6_requireBend_b21 {p : Program} {l : Launch} {e : Env} {s : State} {m : MethodId} {args : Array Value} {below : List Frame} {meth : Method} {c : Code} {G : GT} {kd : Nat → Nat × Nat} {ad : Nat → Nat} (C : Cx p s m args meth c cX6_requireBend 2 none RX6 G kd ad) (hst : l.stackTraces = false) (htb : ∀ x ∈ c.exceptionTable.toList, False) {k0 : Nat} (hk0 : kRoot kd k0) {MO : Mem} {vo : Unit ⊕ Nat}   : ∀  (M : Mem), mX6_requireBend_b21 k0 M = some (MO, vo) → At p l e (rmO 1 1 6) s m args below meth c 0 0 (XQ G kd ad below args s MO (zv vo) 1 6) G kd ad 2 21 [] [] M := by
  intro M hf H locs ls hI hl
  obtain ⟨hx, hb, hml, hr, hown, hts, hlk, hK, hap, hsx⟩ := id C
  unfold mX6_requireBend_b21 at hf
  cases hf
  exact x_throw (text := "there is no such bend") (e9 := 1) true hx hb hst hml hown hts hlk hsx htb (by decide +kernel) fit_n q_t2_110 q_t1_24 (by decide +kernel) at_ioo nb_ioo gd_ioo_176 rfl hI hl.1 (dc tbX6_requireBend_k 10 rfl) (dc tbX6_requireBend_k 11 rfl) (dc tbX6_requireBend_k 12 rfl) (dc tbX6_requireBend_k 13 rfl) (dc tbX6_requireBend_k 14 rfl) (Nat.le_of_ble_eq_true rfl) (Nat.le_of_ble_eq_true rfl) ⟨Nat.le_of_ble_eq_true rfl, Nat.le_of_ble_eq_true rfl⟩ (Nat.le_of_ble_eq_true rfl) (Nat.le_of_ble_eq_true rfl)
def mX6_requireBend (k0 : Nat) (x1 : Int32) (M : Mem) : Option (Mem × (Unit ⊕ Nat)) := ite2 (x1 < 0) (mX6_requireBend_b21 k0 M) (cap (mX1_bendCount 5 M) (fun r3 => ite2 (r3 ≤ x1) (mX6_requireBend_b21 k0 M) (ite2 (x1 < (8 : Int32)) (some (M, Sum.inl ())) (mX6_requireBend_b21 k0 M))))
set_option maxHeartbeats 4000000 in
set_option maxRecDepth 100000 in
theorem tX6_requireBend (l : Launch) (hst : l.stackTraces = false) {G : GT} {kd : Nat → Nat × Nat} {ad : Nat → Nat} {k0 : Nat} (hk0 : kRoot kd k0) {x1 : Int32} {M : Mem} {MO : Mem} {vo : Unit ⊕ Nat} (hf : mX6_requireBend k0 x1 M = some (MO, vo)) (n : Nat) : vx_Met l yX6_requireBend (Cond.code yX6_requireBend cX6_requireBend 2 none :: WA) (rmO 1 1 6) (Pg G kd ad n [.ref (ad k0), .int x1] M) (Qx G kd ad n MO (zv vo)) (Xx G kd ad n MO (zv vo)) 1 6 (AS kd ad n) := by
  refine g_bodyX (own := RX6) (by decide) rfl ?_ (Nat.le_of_ble_eq_true rfl)
  intro p e s m args below meth c C htb _ H locs ls hI hl
  obtain ⟨hx, hb, hml, hr, hown, hts, hlk, hK, hap, hsx⟩ := id C
  have hl : lv_has ls 2 [(0, .ref (ad k0)), (1, .int x1)] := hl
  unfold mX6_requireBend at hf
  refine lv_iload_n hx hb (dc tbX6_requireBend_k 0 rfl) rfl (lv_at hl 1 rfl) ?_
  refine lv_if_lt (tgt := 21) hx hb (dc tbX6_requireBend_k 1 rfl) rfl (fun c1 => ?_) (fun c1 => ?_)
  · have hf := ite_t c1 hf
    exact tX6_requireBend_b21 C hst htb hk0 M hf _ _ _ hI (lv_sub hl [] rfl)
  · have hf := ite_f c1 hf
    refine lv_iload_n hx hb (dc tbX6_requireBend_k 2 rfl) rfl (lv_at hl 1 rfl) ?_
    refine lv_aload_n hx hb (dc tbX6_requireBend_k 3 rfl) rfl (lv_at hl 0 rfl) ?_
    refine gg6_3 hx hb hts hown hK hI hk0.1 q_t2_65 (dc tbX6_requireBend_k 4 rfl) ?_
    obtain ⟨r3, q2, hf⟩ := cap_s hf
    refine g_callVi hx hb hml hown hts hK hap hsx hI (tX1_bendCount l hk0.2.2.2.1 q2 H.size) cv_X1_bendCount q_t2_106 rfl rfl ⟨Nat.le_of_ble_eq_true rfl, Nat.le_of_ble_eq_true rfl⟩ hk0.2.2.2.1.1 (by simp) rfl rfl rfl hl.1 rfl (Nat.le_of_ble_eq_true rfl) (dc tbX6_requireBend_k 5 rfl) ⟨Nat.le_of_ble_eq_true rfl, Nat.le_of_ble_eq_true rfl⟩ (fun H locs hI => ?_)
    refine lv_icmp_ge (tgt := 21) hx hb (dc tbX6_requireBend_k 6 rfl) rfl (fun c5 => ?_) (fun c5 => ?_)
    · have hf := ite_t c5 hf
      exact tX6_requireBend_b21 C hst htb hk0 M hf _ _ _ hI (lv_sub hl [] rfl)
    · have hf := ite_f c5 hf
      refine lv_iload_n hx hb (dc tbX6_requireBend_k 7 rfl) rfl (lv_at hl 1 rfl) ?_
      refine lv_bipush (v := 8) hx hb (dc tbX6_requireBend_k 8 rfl) bp_8 ?_
      refine lv_icmp_lt (tgt := 32) hx hb (dc tbX6_requireBend_k 9 rfl) rfl (fun c6 => ?_) (fun c6 => ?_)
      · have hf := ite_t c6 hf
        cases hf
        refine W.widen (k := 1) (n := 6) (Nat.le_of_ble_eq_true rfl) (Nat.le_of_ble_eq_true rfl) ?_
        exact x_ret (g_vret hx hb hr hlk hI (dc tbX6_requireBend_k 15 rfl))
      · have hf := ite_f c6 hf
        exact tX6_requireBend_b21 C hst htb hk0 M hf _ _ _ hI (lv_sub hl [] rfl)
theorem cv_X6_requireBend : cvF RX6 yX6_requireBend cX6_requireBend 2 none 1 := ⟨q_t2_104, q_s1_1, q_t1_1, q_t2_105, by decide +kernel⟩
def mX6_isUp (k0 : Nat) (x1 : Int32) (M : Mem) : Option (Mem × (Int32 ⊕ Nat)) := calx (mX6_requireBend k0 x1 M) (fun M3 _ => cap (mX1_goesUp 5 x1 M3) (fun r6 => chk (isB r6) (some (M3, Sum.inl r6))))
set_option maxHeartbeats 4000000 in
set_option maxRecDepth 100000 in
theorem tX6_isUp (l : Launch) (hst : l.stackTraces = false) {G : GT} {kd : Nat → Nat × Nat} {ad : Nat → Nat} {k0 : Nat} (hk0 : kRoot kd k0) {x1 : Int32} {M : Mem} {MO : Mem} {vo : Int32 ⊕ Nat} (hf : mX6_isUp k0 x1 M = some (MO, vo)) (n : Nat) : vx_Met l yX6_isUp (Cond.code yX6_isUp cX6_isUp 2 (some .boolean) :: WA) (rmO 2 1 6) (Pg G kd ad n [.ref (ad k0), .int x1] M) (Qx G kd ad n MO (zi vo)) (Xx G kd ad n MO (zi vo)) 1 6 (AS kd ad n) := by
  refine g_bodyX (own := RX6) (by decide) rfl ?_ (Nat.le_of_ble_eq_true rfl)
  intro p e s m args below meth c C htb _ H locs ls hI hl
  obtain ⟨hx, hb, hml, hr, hown, hts, hlk, hK, hap, hsx⟩ := id C
  have hl : lv_has ls 2 [(0, .ref (ad k0)), (1, .int x1)] := hl
  unfold mX6_isUp at hf
  refine lv_aload_n hx hb (dc tbX6_isUp_k 0 rfl) rfl (lv_at hl 0 rfl) ?_
  refine lv_iload_n hx hb (dc tbX6_isUp_k 1 rfl) rfl (lv_at hl 1 rfl) ?_
  rcases calx_s hf with ⟨M3, r2, q1, hf⟩ | ⟨e4, q1, rfl⟩
  · refine x_callRv (g_runXV hx hb hml hown hts hK hap hsx hI (tX6_requireBend l hst hk0 q1 H.size) cv_X6_requireBend q_t2_102 rfl rfl ⟨Nat.le_of_ble_eq_true rfl, Nat.le_of_ble_eq_true rfl⟩ hk0.1 (by simp) rfl rfl rfl hl.1 rfl (Nat.le_of_ble_eq_true rfl) (dc tbX6_isUp_k 2 rfl) ⟨Nat.le_of_ble_eq_true rfl, Nat.le_of_ble_eq_true rfl⟩) hI (fun H locs hI => ?_)
    refine lv_aload_n hx hb (dc tbX6_isUp_k 3 rfl) rfl (lv_at hl 0 rfl) ?_
    refine gg6_3 hx hb hts hown hK hI hk0.1 q_t2_65 (dc tbX6_isUp_k 4 rfl) ?_
    refine lv_iload_n hx hb (dc tbX6_isUp_k 5 rfl) rfl (lv_at hl 1 rfl) ?_
    obtain ⟨r6, q5, hf⟩ := cap_s hf
    refine g_callVi hx hb hml hown hts hK hap hsx hI (tX1_goesUp l hk0.2.2.2.1 q5 H.size) cv_X1_goesUp q_t2_177 rfl rfl ⟨Nat.le_of_ble_eq_true rfl, Nat.le_of_ble_eq_true rfl⟩ hk0.2.2.2.1.1 (by simp) rfl rfl rfl hl.1 rfl (Nat.le_of_ble_eq_true rfl) (dc tbX6_isUp_k 6 rfl) ⟨Nat.le_of_ble_eq_true rfl, Nat.le_of_ble_eq_true rfl⟩ (fun H locs hI => ?_)
    obtain ⟨h8, hf⟩ := chk_s hf
    cases hf
    exact x_ret (g_zret hx hb hr hlk hI (isB_n h8) (dc tbX6_isUp_k 7 rfl))
  · exact x_callT (g_runXV hx hb hml hown hts hK hap hsx hI (tX6_requireBend l hst hk0 q1 H.size) cv_X6_requireBend q_t2_102 rfl rfl ⟨Nat.le_of_ble_eq_true rfl, Nat.le_of_ble_eq_true rfl⟩ hk0.1 (by simp) rfl rfl rfl hl.1 rfl (Nat.le_of_ble_eq_true rfl) (dc tbX6_isUp_k 2 rfl) ⟨Nat.le_of_ble_eq_true rfl, Nat.le_of_ble_eq_true rfl⟩) hI htb hlk (Nat.le_of_ble_eq_true rfl) (Nat.le_of_ble_eq_true rfl)
theorem cv_X6_isUp : cvF RX6 yX6_isUp cX6_isUp 2 (some .boolean) 1 := ⟨q_t2_99, q_t2_100, q_t1_1, q_t2_101, by decide +kernel⟩
def mX6_requireLeg_b21 (k0 : Nat) (M : Mem) : Option (Mem × (Unit ⊕ Nat)) := some (M, Sum.inr 1)
set_option maxHeartbeats 4000000 in
set_option maxRecDepth 100000 in
theorem tX6_requireLeg_b21 {p : Program} {l : Launch} {e : Env} {s : State} {m : MethodId} {args : Array Value} {below : List Frame} {meth : Method} {c : Code} {G : GT} {kd : Nat → Nat × Nat} {ad : Nat → Nat} (C : Cx p s m args meth c cX6_requireLeg 2 none RX6 G kd ad) (hst : l.stackTraces = false) (htb : ∀ x ∈ c.exceptionTable.toList, False) {k0 : Nat} (hk0 : kRoot kd k0) {MO : Mem} {vo : Unit ⊕ Nat}   : ∀  (M : Mem), mX6_requireLeg_b21 k0 M = some (MO, vo) → At p l e (rmO 0 1 6) s m args below meth c 0 0 (XQ G kd ad below args s MO (zv vo) 1 6) G kd ad 2 21 [] [] M := by
  intro M hf H locs ls hI hl
  obtain ⟨hx, hb, hml, hr, hown, hts, hlk, hK, hap, hsx⟩ := id C
  unfold mX6_requireLeg_b21 at hf
  cases hf
  exact x_throw (text := "there is no such leg") (e9 := 1) true hx hb hst hml hown hts hlk hsx htb (by decide +kernel) fit_n q_t2_110 q_t1_24 (by decide +kernel) at_ioo nb_ioo gd_ioo_176 rfl hI hl.1 (dc tbX6_requireLeg_k 10 rfl) (dc tbX6_requireLeg_k 11 rfl) (dc tbX6_requireLeg_k 12 rfl) (dc tbX6_requireLeg_k 13 rfl) (dc tbX6_requireLeg_k 14 rfl) (Nat.le_of_ble_eq_true rfl) (Nat.le_of_ble_eq_true rfl) ⟨Nat.le_of_ble_eq_true rfl, Nat.le_of_ble_eq_true rfl⟩ (Nat.le_of_ble_eq_true rfl) (Nat.le_of_ble_eq_true rfl)
def mX6_requireLeg (k0 : Nat) (x1 : Int32) (M : Mem) : Option (Mem × (Unit ⊕ Nat)) := ite2 (x1 < 0) (mX6_requireLeg_b21 k0 M) (ite2 ((rd M 5 0) ≤ x1) (mX6_requireLeg_b21 k0 M) (ite2 (x1 < (9 : Int32)) (some (M, Sum.inl ())) (mX6_requireLeg_b21 k0 M)))
set_option maxHeartbeats 4000000 in
set_option maxRecDepth 100000 in
theorem tX6_requireLeg (l : Launch) (hst : l.stackTraces = false) {G : GT} {kd : Nat → Nat × Nat} {ad : Nat → Nat} {k0 : Nat} (hk0 : kRoot kd k0) {x1 : Int32} {M : Mem} {MO : Mem} {vo : Unit ⊕ Nat} (hf : mX6_requireLeg k0 x1 M = some (MO, vo)) (n : Nat) : vx_Met l yX6_requireLeg (Cond.code yX6_requireLeg cX6_requireLeg 2 none :: WA) (rmO 0 1 6) (Pg G kd ad n [.ref (ad k0), .int x1] M) (Qx G kd ad n MO (zv vo)) (Xx G kd ad n MO (zv vo)) 1 6 (AS kd ad n) := by
  refine g_bodyX (own := RX6) (by decide) rfl ?_ (Nat.le_of_ble_eq_true rfl)
  intro p e s m args below meth c C htb _ H locs ls hI hl
  obtain ⟨hx, hb, hml, hr, hown, hts, hlk, hK, hap, hsx⟩ := id C
  have hl : lv_has ls 2 [(0, .ref (ad k0)), (1, .int x1)] := hl
  unfold mX6_requireLeg at hf
  refine lv_iload_n hx hb (dc tbX6_requireLeg_k 0 rfl) rfl (lv_at hl 1 rfl) ?_
  refine lv_if_lt (tgt := 21) hx hb (dc tbX6_requireLeg_k 1 rfl) rfl (fun c1 => ?_) (fun c1 => ?_)
  · have hf := ite_t c1 hf
    exact tX6_requireLeg_b21 C hst htb hk0 M hf _ _ _ hI (lv_sub hl [] rfl)
  · have hf := ite_f c1 hf
    refine lv_iload_n hx hb (dc tbX6_requireLeg_k 2 rfl) rfl (lv_at hl 1 rfl) ?_
    refine lv_aload_n hx hb (dc tbX6_requireLeg_k 3 rfl) rfl (lv_at hl 0 rfl) ?_
    refine gg6_3 hx hb hts hown hK hI hk0.1 q_t2_65 (dc tbX6_requireLeg_k 4 rfl) ?_
    refine gg1_0 hx hb hts hown hK hI hk0.2.2.2.1.1 q_t1_100 (dc tbX6_requireLeg_k 5 rfl) ?_
    refine lv_icmp_ge (tgt := 21) hx hb (dc tbX6_requireLeg_k 6 rfl) rfl (fun c2 => ?_) (fun c2 => ?_)
    · have hf := ite_t c2 hf
      exact tX6_requireLeg_b21 C hst htb hk0 M hf _ _ _ hI (lv_sub hl [] rfl)
    · have hf := ite_f c2 hf
      refine lv_iload_n hx hb (dc tbX6_requireLeg_k 7 rfl) rfl (lv_at hl 1 rfl) ?_
      refine lv_bipush (v := 9) hx hb (dc tbX6_requireLeg_k 8 rfl) bp_9 ?_
      refine lv_icmp_lt (tgt := 32) hx hb (dc tbX6_requireLeg_k 9 rfl) rfl (fun c3 => ?_) (fun c3 => ?_)
      · have hf := ite_t c3 hf
        cases hf
        refine W.widen (k := 1) (n := 6) (Nat.le_of_ble_eq_true rfl) (Nat.le_of_ble_eq_true rfl) ?_
        exact x_ret (g_vret hx hb hr hlk hI (dc tbX6_requireLeg_k 15 rfl))
      · have hf := ite_f c3 hf
        exact tX6_requireLeg_b21 C hst htb hk0 M hf _ _ _ hI (lv_sub hl [] rfl)
theorem cv_X6_requireLeg : cvF RX6 yX6_requireLeg cX6_requireLeg 2 none 1 := ⟨q_t5_33, q_s2_8, q_t1_1, q_t5_34, by decide +kernel⟩
def mX6_requireChoice_b9 (M : Mem) : Option (Mem × (Unit ⊕ Nat)) := some (M, Sum.inr 0)
set_option maxHeartbeats 4000000 in
set_option maxRecDepth 100000 in
theorem tX6_requireChoice_b9 {p : Program} {l : Launch} {e : Env} {s : State} {m : MethodId} {args : Array Value} {below : List Frame} {meth : Method} {c : Code} {G : GT} {kd : Nat → Nat × Nat} {ad : Nat → Nat} (C : Cx p s m args meth c cX6_requireChoice 2 none RX6 G kd ad) (hst : l.stackTraces = false) (htb : ∀ x ∈ c.exceptionTable.toList, False)  {MO : Mem} {vo : Unit ⊕ Nat}   : ∀  (M : Mem), mX6_requireChoice_b9  M = some (MO, vo) → At p l e (rmO 0 1 6) s m args below meth c 0 0 (XQ G kd ad below args s MO (zv vo) 1 6) G kd ad 2 9 [] [] M := by
  intro M hf H locs ls hI hl
  obtain ⟨hx, hb, hml, hr, hown, hts, hlk, hK, hap, hsx⟩ := id C
  unfold mX6_requireChoice_b9 at hf
  cases hf
  exact x_throw (text := "a parameter is out of range") (e9 := 0) true hx hb hst hml hown hts hlk hsx htb (by decide +kernel) fit_n q_t3_44 q_t1_21 (by decide +kernel) at_iae nb_iae gd_iae_66 rfl hI hl.1 (dc tbX6_requireChoice_k 5 rfl) (dc tbX6_requireChoice_k 6 rfl) (dc tbX6_requireChoice_k 7 rfl) (dc tbX6_requireChoice_k 8 rfl) (dc tbX6_requireChoice_k 9 rfl) (Nat.le_of_ble_eq_true rfl) (Nat.le_of_ble_eq_true rfl) ⟨Nat.le_of_ble_eq_true rfl, Nat.le_of_ble_eq_true rfl⟩ (Nat.le_of_ble_eq_true rfl) (Nat.le_of_ble_eq_true rfl)
def mX6_requireChoice (x0 : Int32) (x1 : Int32) (M : Mem) : Option (Mem × (Unit ⊕ Nat)) := ite2 (x0 < 0) (mX6_requireChoice_b9  M) (ite2 (x0 ≤ x1) (some (M, Sum.inl ())) (mX6_requireChoice_b9  M))
set_option maxHeartbeats 4000000 in
set_option maxRecDepth 100000 in
theorem tX6_requireChoice (l : Launch) (hst : l.stackTraces = false) {G : GT} {kd : Nat → Nat × Nat} {ad : Nat → Nat}  {x0 : Int32} {x1 : Int32} {M : Mem} {MO : Mem} {vo : Unit ⊕ Nat} (hf : mX6_requireChoice  x0 x1 M = some (MO, vo)) (n : Nat) : vx_Met l yX6_requireChoice (Cond.code yX6_requireChoice cX6_requireChoice 2 none :: WA) (rmO 0 1 6) (Pg G kd ad n [.int x0, .int x1] M) (Qx G kd ad n MO (zv vo)) (Xx G kd ad n MO (zv vo)) 1 6 (AS kd ad n) := by
  refine g_bodyX (own := RX6) (by decide) rfl ?_ (Nat.le_of_ble_eq_true rfl)
  intro p e s m args below meth c C htb _ H locs ls hI hl
  obtain ⟨hx, hb, hml, hr, hown, hts, hlk, hK, hap, hsx⟩ := id C
  have hl : lv_has ls 2 [(0, .int x0), (1, .int x1)] := hl
  unfold mX6_requireChoice at hf
  refine lv_iload_n hx hb (dc tbX6_requireChoice_k 0 rfl) rfl (lv_at hl 0 rfl) ?_
  refine lv_if_lt (tgt := 9) hx hb (dc tbX6_requireChoice_k 1 rfl) rfl (fun c1 => ?_) (fun c1 => ?_)
  · have hf := ite_t c1 hf
    exact tX6_requireChoice_b9 C hst htb  M hf _ _ _ hI (lv_sub hl [] rfl)
  · have hf := ite_f c1 hf
    refine lv_iload_n hx hb (dc tbX6_requireChoice_k 2 rfl) rfl (lv_at hl 0 rfl) ?_
    refine lv_iload_n hx hb (dc tbX6_requireChoice_k 3 rfl) rfl (lv_at hl 1 rfl) ?_
    refine lv_icmp_le (tgt := 20) hx hb (dc tbX6_requireChoice_k 4 rfl) rfl (fun c2 => ?_) (fun c2 => ?_)
    · have hf := ite_t c2 hf
      cases hf
      refine W.widen (k := 1) (n := 6) (Nat.le_of_ble_eq_true rfl) (Nat.le_of_ble_eq_true rfl) ?_
      exact x_ret (g_vret hx hb hr hlk hI (dc tbX6_requireChoice_k 10 rfl))
    · have hf := ite_f c2 hf
      exact tX6_requireChoice_b9 C hst htb  M hf _ _ _ hI (lv_sub hl [] rfl)
theorem cs_X6_requireChoice : csF yX6_requireChoice cX6_requireChoice 2 none 2 := ⟨q_t4_177, q_t1_1, q_t4_178, by decide +kernel⟩
def mX6_finishedCorner (k0 : Nat) (x1 : Int32) (x2 : Int32) (M : Mem) : Option (Mem × (Int32 ⊕ Nat)) := calx (mX6_requireLeg k0 x1 M) (fun M3 _ => calx (mX6_requireChoice x2 (1 : Int32) M3) (fun M7 _ => cal (mX2_layFinished 103 5 M7) (fun M11 _ => ite2 (x2 = 0) (chk (okb x1 9) (some (M11, Sum.inl (rd M11 (103 + 1) (x1).toNatClampNeg)))) (chk (okb x1 9) (some (M11, Sum.inl (rd M11 (103 + 2) (x1).toNatClampNeg)))))))
set_option maxHeartbeats 4000000 in
set_option maxRecDepth 100000 in
theorem tX6_finishedCorner (l : Launch) (hst : l.stackTraces = false) {G : GT} {kd : Nat → Nat × Nat} {ad : Nat → Nat} {k0 : Nat} (hk0 : kRoot kd k0) {x1 : Int32} {x2 : Int32} {M : Mem} {MO : Mem} {vo : Int32 ⊕ Nat} (hf : mX6_finishedCorner k0 x1 x2 M = some (MO, vo)) (n : Nat) : vx_Met l yX6_finishedCorner (Cond.code yX6_finishedCorner cX6_finishedCorner 3 (some .int) :: WA) (rmO 3 2 12) (Pg G kd ad n [.ref (ad k0), .int x1, .int x2] M) (Qx G kd ad n MO (zi vo)) (Xx G kd ad n MO (zi vo)) 2 12 (AS kd ad n) := by
  refine g_bodyX (own := RX6) (by decide) rfl ?_ (Nat.le_of_ble_eq_true rfl)
  intro p e s m args below meth c C htb _ H locs ls hI hl
  obtain ⟨hx, hb, hml, hr, hown, hts, hlk, hK, hap, hsx⟩ := id C
  have hl : lv_has ls 3 [(0, .ref (ad k0)), (1, .int x1), (2, .int x2)] := hl
  unfold mX6_finishedCorner at hf
  refine lv_aload_n hx hb (dc tbX6_finishedCorner_k 0 rfl) rfl (lv_at hl 0 rfl) ?_
  refine lv_iload_n hx hb (dc tbX6_finishedCorner_k 1 rfl) rfl (lv_at hl 1 rfl) ?_
  rcases calx_s hf with ⟨M3, r2, q1, hf⟩ | ⟨e4, q1, rfl⟩
  · refine x_callRv (g_runXV hx hb hml hown hts hK hap hsx hI (tX6_requireLeg l hst hk0 q1 H.size) cv_X6_requireLeg q_t5_31 rfl rfl ⟨Nat.le_of_ble_eq_true rfl, Nat.le_of_ble_eq_true rfl⟩ hk0.1 (by simp) rfl rfl rfl hl.1 rfl (Nat.le_of_ble_eq_true rfl) (dc tbX6_finishedCorner_k 2 rfl) ⟨Nat.le_of_ble_eq_true rfl, Nat.le_of_ble_eq_true rfl⟩) hI (fun H locs hI => ?_)
    refine lv_iload_n hx hb (dc tbX6_finishedCorner_k 3 rfl) rfl (lv_at hl 2 rfl) ?_
    refine lv_iconst (v := 1) hx hb (dc tbX6_finishedCorner_k 4 rfl) ic_1 ?_
    rcases calx_s hf with ⟨M7, r6, q5, hf⟩ | ⟨e8, q5, rfl⟩
    · refine x_callRv (g_runXS hx hb hml hown hts hK hap hsx hI (tX6_requireChoice l hst  q5 H.size) cs_X6_requireChoice q_t4_176 rfl rfl ⟨Nat.le_of_ble_eq_true rfl, Nat.le_of_ble_eq_true rfl⟩ rfl hl.1 rfl (Nat.le_of_ble_eq_true rfl) (dc tbX6_finishedCorner_k 5 rfl) ⟨Nat.le_of_ble_eq_true rfl, Nat.le_of_ble_eq_true rfl⟩) hI (fun H locs hI => ?_)
      refine lv_aload_n hx hb (dc tbX6_finishedCorner_k 6 rfl) rfl (lv_at hl 0 rfl) ?_
      refine gg6_6 hx hb hts hown hK hI hk0.1 q_t2_68 (dc tbX6_finishedCorner_k 7 rfl) ?_
      refine lv_aload_n hx hb (dc tbX6_finishedCorner_k 8 rfl) rfl (lv_at hl 0 rfl) ?_
      refine gg6_3 hx hb hts hown hK hI hk0.1 q_t2_65 (dc tbX6_finishedCorner_k 9 rfl) ?_
      obtain ⟨M11, r10, q9, hf⟩ := cal_s hf
      refine g_callVv hx hb hml hown hts hK hap hsx hI (tX2_layFinished l hk0.2.2.2.2.2.2.1 hk0.2.2.2.1 q9 H.size) cv_X2_layFinished q_t5_54 rfl rfl ⟨Nat.le_of_ble_eq_true rfl, Nat.le_of_ble_eq_true rfl⟩ hk0.2.2.2.2.2.2.1.1 (by simp) rfl rfl rfl hl.1 rfl (Nat.le_of_ble_eq_true rfl) (dc tbX6_finishedCorner_k 10 rfl) ⟨Nat.le_of_ble_eq_true rfl, Nat.le_of_ble_eq_true rfl⟩ (fun H locs hI => ?_)
      refine lv_iload_n hx hb (dc tbX6_finishedCorner_k 11 rfl) rfl (lv_at hl 2 rfl) ?_
      refine lv_if_ne (tgt := 37) hx hb (dc tbX6_finishedCorner_k 12 rfl) rfl (fun c12 => ?_) (fun c12 => ?_)
      · have hf := ite_f c12 hf
        refine lv_aload_n hx hb (dc tbX6_finishedCorner_k 19 rfl) rfl (lv_at hl 0 rfl) ?_
        refine gg6_6 hx hb hts hown hK hI hk0.1 q_t2_68 (dc tbX6_finishedCorner_k 20 rfl) ?_
        refine gg2_1 hx hb hts hown hK hI hk0.2.2.2.2.2.2.1.1 q_t1_188 (dc tbX6_finishedCorner_k 21 rfl) ?_
        refine lv_iload_n hx hb (dc tbX6_finishedCorner_k 22 rfl) rfl (lv_at hl 1 rfl) ?_
        obtain ⟨h13, hf⟩ := chk_s hf
        refine g_iald hx hb hK hI hk0.2.2.2.2.2.2.1.2.2.1 (okb_in h13) (dc tbX6_finishedCorner_k 23 rfl) ?_
        cases hf
        exact x_ret (g_iret hx hb hr hlk hI (dc tbX6_finishedCorner_k 24 rfl))
      · have hf := ite_t c12 hf
        refine lv_aload_n hx hb (dc tbX6_finishedCorner_k 13 rfl) rfl (lv_at hl 0 rfl) ?_
        refine gg6_6 hx hb hts hown hK hI hk0.1 q_t2_68 (dc tbX6_finishedCorner_k 14 rfl) ?_
        refine gg2_0 hx hb hts hown hK hI hk0.2.2.2.2.2.2.1.1 q_t1_186 (dc tbX6_finishedCorner_k 15 rfl) ?_
        refine lv_iload_n hx hb (dc tbX6_finishedCorner_k 16 rfl) rfl (lv_at hl 1 rfl) ?_
        obtain ⟨h14, hf⟩ := chk_s hf
        refine g_iald hx hb hK hI hk0.2.2.2.2.2.2.1.2.1 (okb_in h14) (dc tbX6_finishedCorner_k 17 rfl) ?_
        refine lv_goto (tgt := 46) hx hb (dc tbX6_finishedCorner_k 18 rfl) rfl ?_
        cases hf
        exact x_ret (g_iret hx hb hr hlk hI (dc tbX6_finishedCorner_k 24 rfl))
    · exact x_callT (g_runXS hx hb hml hown hts hK hap hsx hI (tX6_requireChoice l hst  q5 H.size) cs_X6_requireChoice q_t4_176 rfl rfl ⟨Nat.le_of_ble_eq_true rfl, Nat.le_of_ble_eq_true rfl⟩ rfl hl.1 rfl (Nat.le_of_ble_eq_true rfl) (dc tbX6_finishedCorner_k 5 rfl) ⟨Nat.le_of_ble_eq_true rfl, Nat.le_of_ble_eq_true rfl⟩) hI htb hlk (Nat.le_of_ble_eq_true rfl) (Nat.le_of_ble_eq_true rfl)
  · exact x_callT (g_runXV hx hb hml hown hts hK hap hsx hI (tX6_requireLeg l hst hk0 q1 H.size) cv_X6_requireLeg q_t5_31 rfl rfl ⟨Nat.le_of_ble_eq_true rfl, Nat.le_of_ble_eq_true rfl⟩ hk0.1 (by simp) rfl rfl rfl hl.1 rfl (Nat.le_of_ble_eq_true rfl) (dc tbX6_finishedCorner_k 2 rfl) ⟨Nat.le_of_ble_eq_true rfl, Nat.le_of_ble_eq_true rfl⟩) hI htb hlk (Nat.le_of_ble_eq_true rfl) (Nat.le_of_ble_eq_true rfl)
theorem cv_X6_finishedCorner : cvF RX6 yX6_finishedCorner cX6_finishedCorner 3 (some .int) 2 := ⟨q_t5_51, q_t5_52, q_t1_1, q_t5_53, by decide +kernel⟩
def mX6_made (k0 : Nat) (M : Mem) : Option Int32 := some (rd M 5 13)
set_option maxHeartbeats 4000000 in
set_option maxRecDepth 100000 in
theorem tX6_made (l : Launch) {G : GT} {kd : Nat → Nat × Nat} {ad : Nat → Nat} {k0 : Nat} (hk0 : kRoot kd k0) {M : Mem} {vo : Int32} (hf : mX6_made k0 M = some vo) (n : Nat) : Met l yX6_made (Cond.code yX6_made cX6_made 1 (some .int) :: WA) (rmO 0 0 0) (Pg G kd ad n [.ref (ad k0)] M) (Qg G kd ad n M (some (.int vo))) 0 0 (AS kd ad n) := by
  refine g_body (own := RX6) (by decide) rfl ?_ (Nat.le_of_ble_eq_true rfl)
  intro p e s m args below meth c C _ H locs ls hI hl
  obtain ⟨hx, hb, hml, hr, hown, hts, hlk, hK, hap, hsx⟩ := id C
  have hl : lv_has ls 1 [(0, .ref (ad k0))] := hl
  unfold mX6_made at hf
  refine lv_aload_n hx hb (dc tbX6_made_k 0 rfl) rfl (lv_at hl 0 rfl) ?_
  refine gg6_3 hx hb hts hown hK hI hk0.1 q_t2_65 (dc tbX6_made_k 1 rfl) ?_
  refine gg1_13 hx hb hts hown hK hI hk0.2.2.2.1.1 q_t1_118 (dc tbX6_made_k 2 rfl) ?_
  cases hf
  exact g_iret hx hb hr hlk hI (dc tbX6_made_k 3 rfl)
theorem cv_X6_made : cvF RX6 yX6_made cX6_made 1 (some .int) 0 := ⟨q_t2_182, q_t2_183, q_t1_1, q_t2_184, by decide +kernel⟩
def mX6_requireStep (k0 : Nat) (x1 : Int32) (x2 : Int32) (M : Mem) : Option (Mem × (Unit ⊕ Nat)) := calx (mX6_requireBend k0 x1 M) (fun M3 _ => calx (mX6_requireChoice x2 (1 : Int32) M3) (fun M7 _ => some (M7, Sum.inl ())))
set_option maxHeartbeats 4000000 in
set_option maxRecDepth 100000 in
theorem tX6_requireStep (l : Launch) (hst : l.stackTraces = false) {G : GT} {kd : Nat → Nat × Nat} {ad : Nat → Nat} {k0 : Nat} (hk0 : kRoot kd k0) {x1 : Int32} {x2 : Int32} {M : Mem} {MO : Mem} {vo : Unit ⊕ Nat} (hf : mX6_requireStep k0 x1 x2 M = some (MO, vo)) (n : Nat) : vx_Met l yX6_requireStep (Cond.code yX6_requireStep cX6_requireStep 3 none :: WA) (rmO 2 2 12) (Pg G kd ad n [.ref (ad k0), .int x1, .int x2] M) (Qx G kd ad n MO (zv vo)) (Xx G kd ad n MO (zv vo)) 2 12 (AS kd ad n) := by
  refine g_bodyX (own := RX6) (by decide) rfl ?_ (Nat.le_of_ble_eq_true rfl)
  intro p e s m args below meth c C htb _ H locs ls hI hl
  obtain ⟨hx, hb, hml, hr, hown, hts, hlk, hK, hap, hsx⟩ := id C
  have hl : lv_has ls 3 [(0, .ref (ad k0)), (1, .int x1), (2, .int x2)] := hl
  unfold mX6_requireStep at hf
  refine lv_aload_n hx hb (dc tbX6_requireStep_k 0 rfl) rfl (lv_at hl 0 rfl) ?_
  refine lv_iload_n hx hb (dc tbX6_requireStep_k 1 rfl) rfl (lv_at hl 1 rfl) ?_
  rcases calx_s hf with ⟨M3, r2, q1, hf⟩ | ⟨e4, q1, rfl⟩
  · refine x_callRv (g_runXV hx hb hml hown hts hK hap hsx hI (tX6_requireBend l hst hk0 q1 H.size) cv_X6_requireBend q_t2_102 rfl rfl ⟨Nat.le_of_ble_eq_true rfl, Nat.le_of_ble_eq_true rfl⟩ hk0.1 (by simp) rfl rfl rfl hl.1 rfl (Nat.le_of_ble_eq_true rfl) (dc tbX6_requireStep_k 2 rfl) ⟨Nat.le_of_ble_eq_true rfl, Nat.le_of_ble_eq_true rfl⟩) hI (fun H locs hI => ?_)
    refine lv_iload_n hx hb (dc tbX6_requireStep_k 3 rfl) rfl (lv_at hl 2 rfl) ?_
    refine lv_iconst (v := 1) hx hb (dc tbX6_requireStep_k 4 rfl) ic_1 ?_
    rcases calx_s hf with ⟨M7, r6, q5, hf⟩ | ⟨e8, q5, rfl⟩
    · refine x_callRv (g_runXS hx hb hml hown hts hK hap hsx hI (tX6_requireChoice l hst  q5 H.size) cs_X6_requireChoice q_t4_176 rfl rfl ⟨Nat.le_of_ble_eq_true rfl, Nat.le_of_ble_eq_true rfl⟩ rfl hl.1 rfl (Nat.le_of_ble_eq_true rfl) (dc tbX6_requireStep_k 5 rfl) ⟨Nat.le_of_ble_eq_true rfl, Nat.le_of_ble_eq_true rfl⟩) hI (fun H locs hI => ?_)
      cases hf
      exact x_ret (g_vret hx hb hr hlk hI (dc tbX6_requireStep_k 6 rfl))
    · exact x_callT (g_runXS hx hb hml hown hts hK hap hsx hI (tX6_requireChoice l hst  q5 H.size) cs_X6_requireChoice q_t4_176 rfl rfl ⟨Nat.le_of_ble_eq_true rfl, Nat.le_of_ble_eq_true rfl⟩ rfl hl.1 rfl (Nat.le_of_ble_eq_true rfl) (dc tbX6_requireStep_k 5 rfl) ⟨Nat.le_of_ble_eq_true rfl, Nat.le_of_ble_eq_true rfl⟩) hI htb hlk (Nat.le_of_ble_eq_true rfl) (Nat.le_of_ble_eq_true rfl)
  · exact x_callT (g_runXV hx hb hml hown hts hK hap hsx hI (tX6_requireBend l hst hk0 q1 H.size) cv_X6_requireBend q_t2_102 rfl rfl ⟨Nat.le_of_ble_eq_true rfl, Nat.le_of_ble_eq_true rfl⟩ hk0.1 (by simp) rfl rfl rfl hl.1 rfl (Nat.le_of_ble_eq_true rfl) (dc tbX6_requireStep_k 2 rfl) ⟨Nat.le_of_ble_eq_true rfl, Nat.le_of_ble_eq_true rfl⟩) hI htb hlk (Nat.le_of_ble_eq_true rfl) (Nat.le_of_ble_eq_true rfl)
theorem cv_X6_requireStep : cvF RX6 yX6_requireStep cX6_requireStep 3 none 2 := ⟨q_t4_174, q_s2_0, q_t1_1, q_t4_175, by decide +kernel⟩
def mX6_reasonNow (k0 : Nat) (x1 : Int32) (M : Mem) : Option (Mem × Int32) := cal (mX2_reasonFor 103 5 (rd M 5 13) x1 M) (fun M3 r2 => some (M3, r2))
set_option maxHeartbeats 4000000 in
set_option maxRecDepth 100000 in
theorem tX6_reasonNow (l : Launch) {G : GT} {kd : Nat → Nat × Nat} {ad : Nat → Nat} {k0 : Nat} (hk0 : kRoot kd k0) {x1 : Int32} {M : Mem} {MO : Mem} {vo : Int32} (hf : mX6_reasonNow k0 x1 M = some (MO, vo)) (n : Nat) : Met l yX6_reasonNow (Cond.code yX6_reasonNow cX6_reasonNow 2 (some .int) :: WA) (rmO 3 0 0) (Pg G kd ad n [.ref (ad k0), .int x1] M) (Qg G kd ad n MO (some (.int vo))) 0 0 (AS kd ad n) := by
  refine g_body (own := RX6) (by decide) rfl ?_ (Nat.le_of_ble_eq_true rfl)
  intro p e s m args below meth c C _ H locs ls hI hl
  obtain ⟨hx, hb, hml, hr, hown, hts, hlk, hK, hap, hsx⟩ := id C
  have hl : lv_has ls 2 [(0, .ref (ad k0)), (1, .int x1)] := hl
  unfold mX6_reasonNow at hf
  refine lv_aload_n hx hb (dc tbX6_reasonNow_k 0 rfl) rfl (lv_at hl 0 rfl) ?_
  refine gg6_6 hx hb hts hown hK hI hk0.1 q_t2_68 (dc tbX6_reasonNow_k 1 rfl) ?_
  refine lv_aload_n hx hb (dc tbX6_reasonNow_k 2 rfl) rfl (lv_at hl 0 rfl) ?_
  refine gg6_3 hx hb hts hown hK hI hk0.1 q_t2_65 (dc tbX6_reasonNow_k 3 rfl) ?_
  refine lv_aload_n hx hb (dc tbX6_reasonNow_k 4 rfl) rfl (lv_at hl 0 rfl) ?_
  refine gg6_3 hx hb hts hown hK hI hk0.1 q_t2_65 (dc tbX6_reasonNow_k 5 rfl) ?_
  refine gg1_13 hx hb hts hown hK hI hk0.2.2.2.1.1 q_t1_118 (dc tbX6_reasonNow_k 6 rfl) ?_
  refine lv_iload_n hx hb (dc tbX6_reasonNow_k 7 rfl) rfl (lv_at hl 1 rfl) ?_
  obtain ⟨M3, r2, q1, hf⟩ := cal_s hf
  refine g_callVi hx hb hml hown hts hK hap hsx hI (tX2_reasonFor l hk0.2.2.2.2.2.2.1 hk0.2.2.2.1 q1 H.size) cv_X2_reasonFor q_t4_231 rfl rfl ⟨Nat.le_of_ble_eq_true rfl, Nat.le_of_ble_eq_true rfl⟩ hk0.2.2.2.2.2.2.1.1 (by simp) rfl rfl rfl hl.1 rfl (Nat.le_of_ble_eq_true rfl) (dc tbX6_reasonNow_k 8 rfl) ⟨Nat.le_of_ble_eq_true rfl, Nat.le_of_ble_eq_true rfl⟩ (fun H locs hI => ?_)
  cases hf
  exact g_iret hx hb hr hlk hI (dc tbX6_reasonNow_k 9 rfl)
theorem cv_X6_reasonNow : cvF RX6 yX6_reasonNow cX6_reasonNow 2 (some .int) 1 := ⟨q_t4_229, q_s2_5, q_t1_1, q_t4_230, by decide +kernel⟩
def mX6_reason (k0 : Nat) (x1 : Int32) (x2 : Int32) (M : Mem) : Option (Mem × (Int32 ⊕ Nat)) := calx (mX6_requireStep k0 x1 x2 M) (fun M3 _ => cal (mX6_reasonNow k0 (((2 : Int32) * x1) + x2) M3) (fun M7 r6 => some (M7, Sum.inl r6)))
set_option maxHeartbeats 4000000 in
set_option maxRecDepth 100000 in
theorem tX6_reason (l : Launch) (hst : l.stackTraces = false) {G : GT} {kd : Nat → Nat × Nat} {ad : Nat → Nat} {k0 : Nat} (hk0 : kRoot kd k0) {x1 : Int32} {x2 : Int32} {M : Mem} {MO : Mem} {vo : Int32 ⊕ Nat} (hf : mX6_reason k0 x1 x2 M = some (MO, vo)) (n : Nat) : vx_Met l yX6_reason (Cond.code yX6_reason cX6_reason 3 (some .int) :: WA) (rmO 4 2 12) (Pg G kd ad n [.ref (ad k0), .int x1, .int x2] M) (Qx G kd ad n MO (zi vo)) (Xx G kd ad n MO (zi vo)) 2 12 (AS kd ad n) := by
  refine g_bodyX (own := RX6) (by decide) rfl ?_ (Nat.le_of_ble_eq_true rfl)
  intro p e s m args below meth c C htb _ H locs ls hI hl
  obtain ⟨hx, hb, hml, hr, hown, hts, hlk, hK, hap, hsx⟩ := id C
  have hl : lv_has ls 3 [(0, .ref (ad k0)), (1, .int x1), (2, .int x2)] := hl
  unfold mX6_reason at hf
  refine lv_aload_n hx hb (dc tbX6_reason_k 0 rfl) rfl (lv_at hl 0 rfl) ?_
  refine lv_iload_n hx hb (dc tbX6_reason_k 1 rfl) rfl (lv_at hl 1 rfl) ?_
  refine lv_iload_n hx hb (dc tbX6_reason_k 2 rfl) rfl (lv_at hl 2 rfl) ?_
  rcases calx_s hf with ⟨M3, r2, q1, hf⟩ | ⟨e4, q1, rfl⟩
  · refine x_callRv (g_runXV hx hb hml hown hts hK hap hsx hI (tX6_requireStep l hst hk0 q1 H.size) cv_X6_requireStep q_t4_172 rfl rfl ⟨Nat.le_of_ble_eq_true rfl, Nat.le_of_ble_eq_true rfl⟩ hk0.1 (by simp) rfl rfl rfl hl.1 rfl (Nat.le_of_ble_eq_true rfl) (dc tbX6_reason_k 3 rfl) ⟨Nat.le_of_ble_eq_true rfl, Nat.le_of_ble_eq_true rfl⟩) hI (fun H locs hI => ?_)
    refine lv_aload_n hx hb (dc tbX6_reason_k 4 rfl) rfl (lv_at hl 0 rfl) ?_
    refine lv_iconst (v := 2) hx hb (dc tbX6_reason_k 5 rfl) ic_2 ?_
    refine lv_iload_n hx hb (dc tbX6_reason_k 6 rfl) rfl (lv_at hl 1 rfl) ?_
    refine lv_imul hx hb (dc tbX6_reason_k 7 rfl) ?_
    refine lv_iload_n hx hb (dc tbX6_reason_k 8 rfl) rfl (lv_at hl 2 rfl) ?_
    refine lv_iadd hx hb (dc tbX6_reason_k 9 rfl) ?_
    obtain ⟨M7, r6, q5, hf⟩ := cal_s hf
    refine g_callVi hx hb hml hown hts hK hap hsx hI (tX6_reasonNow l hk0 q5 H.size) cv_X6_reasonNow q_t4_227 rfl rfl ⟨Nat.le_of_ble_eq_true rfl, Nat.le_of_ble_eq_true rfl⟩ hk0.1 (by simp) rfl rfl rfl hl.1 rfl (Nat.le_of_ble_eq_true rfl) (dc tbX6_reason_k 10 rfl) ⟨Nat.le_of_ble_eq_true rfl, Nat.le_of_ble_eq_true rfl⟩ (fun H locs hI => ?_)
    cases hf
    exact x_ret (g_iret hx hb hr hlk hI (dc tbX6_reason_k 11 rfl))
  · exact x_callT (g_runXV hx hb hml hown hts hK hap hsx hI (tX6_requireStep l hst hk0 q1 H.size) cv_X6_requireStep q_t4_172 rfl rfl ⟨Nat.le_of_ble_eq_true rfl, Nat.le_of_ble_eq_true rfl⟩ hk0.1 (by simp) rfl rfl rfl hl.1 rfl (Nat.le_of_ble_eq_true rfl) (dc tbX6_reason_k 3 rfl) ⟨Nat.le_of_ble_eq_true rfl, Nat.le_of_ble_eq_true rfl⟩) hI htb hlk (Nat.le_of_ble_eq_true rfl) (Nat.le_of_ble_eq_true rfl)
theorem cv_X6_reason : cvF RX6 yX6_reason cX6_reason 3 (some .int) 2 := ⟨q_t4_224, q_t4_225, q_t1_1, q_t4_226, by decide +kernel⟩
def mX6_gaugeNow (k0 : Nat) (x1 : Int32) (M : Mem) : Option (Mem × Int32) := cal (mX2_layStep 103 5 (rd M 5 13) x1 M) (fun M3 _ => cap (mX2_reachToBack 103 M3) (fun r5 => some (M3, r5)))
set_option maxHeartbeats 4000000 in
set_option maxRecDepth 100000 in
theorem tX6_gaugeNow (l : Launch) {G : GT} {kd : Nat → Nat × Nat} {ad : Nat → Nat} {k0 : Nat} (hk0 : kRoot kd k0) {x1 : Int32} {M : Mem} {MO : Mem} {vo : Int32} (hf : mX6_gaugeNow k0 x1 M = some (MO, vo)) (n : Nat) : Met l yX6_gaugeNow (Cond.code yX6_gaugeNow cX6_gaugeNow 2 (some .int) :: WA) (rmO 2 0 0) (Pg G kd ad n [.ref (ad k0), .int x1] M) (Qg G kd ad n MO (some (.int vo))) 0 0 (AS kd ad n) := by
  refine g_body (own := RX6) (by decide) rfl ?_ (Nat.le_of_ble_eq_true rfl)
  intro p e s m args below meth c C _ H locs ls hI hl
  obtain ⟨hx, hb, hml, hr, hown, hts, hlk, hK, hap, hsx⟩ := id C
  have hl : lv_has ls 2 [(0, .ref (ad k0)), (1, .int x1)] := hl
  unfold mX6_gaugeNow at hf
  refine lv_aload_n hx hb (dc tbX6_gaugeNow_k 0 rfl) rfl (lv_at hl 0 rfl) ?_
  refine gg6_6 hx hb hts hown hK hI hk0.1 q_t2_68 (dc tbX6_gaugeNow_k 1 rfl) ?_
  refine lv_aload_n hx hb (dc tbX6_gaugeNow_k 2 rfl) rfl (lv_at hl 0 rfl) ?_
  refine gg6_3 hx hb hts hown hK hI hk0.1 q_t2_65 (dc tbX6_gaugeNow_k 3 rfl) ?_
  refine lv_aload_n hx hb (dc tbX6_gaugeNow_k 4 rfl) rfl (lv_at hl 0 rfl) ?_
  refine gg6_3 hx hb hts hown hK hI hk0.1 q_t2_65 (dc tbX6_gaugeNow_k 5 rfl) ?_
  refine gg1_13 hx hb hts hown hK hI hk0.2.2.2.1.1 q_t1_118 (dc tbX6_gaugeNow_k 6 rfl) ?_
  refine lv_iload_n hx hb (dc tbX6_gaugeNow_k 7 rfl) rfl (lv_at hl 1 rfl) ?_
  obtain ⟨M3, r2, q1, hf⟩ := cal_s hf
  refine g_callVv hx hb hml hown hts hK hap hsx hI (tX2_layStep l hk0.2.2.2.2.2.2.1 hk0.2.2.2.1 q1 H.size) cv_X2_layStep q_t4_184 rfl rfl ⟨Nat.le_of_ble_eq_true rfl, Nat.le_of_ble_eq_true rfl⟩ hk0.2.2.2.2.2.2.1.1 (by simp) rfl rfl rfl hl.1 rfl (Nat.le_of_ble_eq_true rfl) (dc tbX6_gaugeNow_k 8 rfl) ⟨Nat.le_of_ble_eq_true rfl, Nat.le_of_ble_eq_true rfl⟩ (fun H locs hI => ?_)
  refine lv_aload_n hx hb (dc tbX6_gaugeNow_k 9 rfl) rfl (lv_at hl 0 rfl) ?_
  refine gg6_6 hx hb hts hown hK hI hk0.1 q_t2_68 (dc tbX6_gaugeNow_k 10 rfl) ?_
  obtain ⟨r5, q4, hf⟩ := cap_s hf
  refine g_callVi hx hb hml hown hts hK hap hsx hI (tX2_reachToBack l hk0.2.2.2.2.2.2.1 q4 H.size) cv_X2_reachToBack q_t4_195 rfl rfl ⟨Nat.le_of_ble_eq_true rfl, Nat.le_of_ble_eq_true rfl⟩ hk0.2.2.2.2.2.2.1.1 (by simp) rfl rfl rfl hl.1 rfl (Nat.le_of_ble_eq_true rfl) (dc tbX6_gaugeNow_k 11 rfl) ⟨Nat.le_of_ble_eq_true rfl, Nat.le_of_ble_eq_true rfl⟩ (fun H locs hI => ?_)
  cases hf
  exact g_iret hx hb hr hlk hI (dc tbX6_gaugeNow_k 12 rfl)
theorem cv_X6_gaugeNow : cvF RX6 yX6_gaugeNow cX6_gaugeNow 2 (some .int) 1 := ⟨q_t4_182, q_s2_1, q_t1_1, q_t4_183, by decide +kernel⟩
def mX6_gauge (k0 : Nat) (x1 : Int32) (x2 : Int32) (M : Mem) : Option (Mem × (Int32 ⊕ Nat)) := calx (mX6_requireStep k0 x1 x2 M) (fun M3 _ => cal (mX6_gaugeNow k0 (((2 : Int32) * x1) + x2) M3) (fun M7 r6 => some (M7, Sum.inl r6)))
set_option maxHeartbeats 4000000 in
set_option maxRecDepth 100000 in
theorem tX6_gauge (l : Launch) (hst : l.stackTraces = false) {G : GT} {kd : Nat → Nat × Nat} {ad : Nat → Nat} {k0 : Nat} (hk0 : kRoot kd k0) {x1 : Int32} {x2 : Int32} {M : Mem} {MO : Mem} {vo : Int32 ⊕ Nat} (hf : mX6_gauge k0 x1 x2 M = some (MO, vo)) (n : Nat) : vx_Met l yX6_gauge (Cond.code yX6_gauge cX6_gauge 3 (some .int) :: WA) (rmO 3 2 12) (Pg G kd ad n [.ref (ad k0), .int x1, .int x2] M) (Qx G kd ad n MO (zi vo)) (Xx G kd ad n MO (zi vo)) 2 12 (AS kd ad n) := by
  refine g_bodyX (own := RX6) (by decide) rfl ?_ (Nat.le_of_ble_eq_true rfl)
  intro p e s m args below meth c C htb _ H locs ls hI hl
  obtain ⟨hx, hb, hml, hr, hown, hts, hlk, hK, hap, hsx⟩ := id C
  have hl : lv_has ls 3 [(0, .ref (ad k0)), (1, .int x1), (2, .int x2)] := hl
  unfold mX6_gauge at hf
  refine lv_aload_n hx hb (dc tbX6_gauge_k 0 rfl) rfl (lv_at hl 0 rfl) ?_
  refine lv_iload_n hx hb (dc tbX6_gauge_k 1 rfl) rfl (lv_at hl 1 rfl) ?_
  refine lv_iload_n hx hb (dc tbX6_gauge_k 2 rfl) rfl (lv_at hl 2 rfl) ?_
  rcases calx_s hf with ⟨M3, r2, q1, hf⟩ | ⟨e4, q1, rfl⟩
  · refine x_callRv (g_runXV hx hb hml hown hts hK hap hsx hI (tX6_requireStep l hst hk0 q1 H.size) cv_X6_requireStep q_t4_172 rfl rfl ⟨Nat.le_of_ble_eq_true rfl, Nat.le_of_ble_eq_true rfl⟩ hk0.1 (by simp) rfl rfl rfl hl.1 rfl (Nat.le_of_ble_eq_true rfl) (dc tbX6_gauge_k 3 rfl) ⟨Nat.le_of_ble_eq_true rfl, Nat.le_of_ble_eq_true rfl⟩) hI (fun H locs hI => ?_)
    refine lv_aload_n hx hb (dc tbX6_gauge_k 4 rfl) rfl (lv_at hl 0 rfl) ?_
    refine lv_iconst (v := 2) hx hb (dc tbX6_gauge_k 5 rfl) ic_2 ?_
    refine lv_iload_n hx hb (dc tbX6_gauge_k 6 rfl) rfl (lv_at hl 1 rfl) ?_
    refine lv_imul hx hb (dc tbX6_gauge_k 7 rfl) ?_
    refine lv_iload_n hx hb (dc tbX6_gauge_k 8 rfl) rfl (lv_at hl 2 rfl) ?_
    refine lv_iadd hx hb (dc tbX6_gauge_k 9 rfl) ?_
    obtain ⟨M7, r6, q5, hf⟩ := cal_s hf
    refine g_callVi hx hb hml hown hts hK hap hsx hI (tX6_gaugeNow l hk0 q5 H.size) cv_X6_gaugeNow q_t4_180 rfl rfl ⟨Nat.le_of_ble_eq_true rfl, Nat.le_of_ble_eq_true rfl⟩ hk0.1 (by simp) rfl rfl rfl hl.1 rfl (Nat.le_of_ble_eq_true rfl) (dc tbX6_gauge_k 10 rfl) ⟨Nat.le_of_ble_eq_true rfl, Nat.le_of_ble_eq_true rfl⟩ (fun H locs hI => ?_)
    cases hf
    exact x_ret (g_iret hx hb hr hlk hI (dc tbX6_gauge_k 11 rfl))
  · exact x_callT (g_runXV hx hb hml hown hts hK hap hsx hI (tX6_requireStep l hst hk0 q1 H.size) cv_X6_requireStep q_t4_172 rfl rfl ⟨Nat.le_of_ble_eq_true rfl, Nat.le_of_ble_eq_true rfl⟩ hk0.1 (by simp) rfl rfl rfl hl.1 rfl (Nat.le_of_ble_eq_true rfl) (dc tbX6_gauge_k 3 rfl) ⟨Nat.le_of_ble_eq_true rfl, Nat.le_of_ble_eq_true rfl⟩) hI htb hlk (Nat.le_of_ble_eq_true rfl) (Nat.le_of_ble_eq_true rfl)
theorem cv_X6_gauge : cvF RX6 yX6_gauge cX6_gauge 3 (some .int) 2 := ⟨q_t4_169, q_t4_170, q_t1_1, q_t4_171, by decide +kernel⟩
def mX6_corner (k0 : Nat) (x1 : Int32) (x2 : Int32) (x3 : Int32) (x4 : Int32) (M : Mem) : Option (Mem × (Int32 ⊕ Nat)) := calx (mX6_requireBend k0 x1 M) (fun M3 _ => calx (mX6_requireLeg k0 x3 M3) (fun M7 _ => calx (mX6_requireChoice x2 (1 : Int32) M7) (fun M11 _ => calx (mX6_requireChoice x4 (1 : Int32) M11) (fun M15 _ => cal (mX2_layStep 103 5 (rd M15 5 13) (((2 : Int32) * x1) + x2) M15) (fun M19 _ => ite2 (x4 = 0) (chk (okb x3 9) (some (M19, Sum.inl (rd M19 (103 + 1) (x3).toNatClampNeg)))) (chk (okb x3 9) (some (M19, Sum.inl (rd M19 (103 + 2) (x3).toNatClampNeg)))))))))
set_option maxHeartbeats 4000000 in
set_option maxRecDepth 100000 in
theorem tX6_corner (l : Launch) (hst : l.stackTraces = false) {G : GT} {kd : Nat → Nat × Nat} {ad : Nat → Nat} {k0 : Nat} (hk0 : kRoot kd k0) {x1 : Int32} {x2 : Int32} {x3 : Int32} {x4 : Int32} {M : Mem} {MO : Mem} {vo : Int32 ⊕ Nat} (hf : mX6_corner k0 x1 x2 x3 x4 M = some (MO, vo)) (n : Nat) : vx_Met l yX6_corner (Cond.code yX6_corner cX6_corner 5 (some .int) :: WA) (rmO 2 4 24) (Pg G kd ad n [.ref (ad k0), .int x1, .int x2, .int x3, .int x4] M) (Qx G kd ad n MO (zi vo)) (Xx G kd ad n MO (zi vo)) 4 24 (AS kd ad n) := by
  refine g_bodyX (own := RX6) (by decide) rfl ?_ (Nat.le_of_ble_eq_true rfl)
  intro p e s m args below meth c C htb _ H locs ls hI hl
  obtain ⟨hx, hb, hml, hr, hown, hts, hlk, hK, hap, hsx⟩ := id C
  have hl : lv_has ls 5 [(0, .ref (ad k0)), (1, .int x1), (2, .int x2), (3, .int x3), (4, .int x4)] := hl
  unfold mX6_corner at hf
  refine lv_aload_n hx hb (dc tbX6_corner_k 0 rfl) rfl (lv_at hl 0 rfl) ?_
  refine lv_iload_n hx hb (dc tbX6_corner_k 1 rfl) rfl (lv_at hl 1 rfl) ?_
  rcases calx_s hf with ⟨M3, r2, q1, hf⟩ | ⟨e4, q1, rfl⟩
  · refine x_callRv (g_runXV hx hb hml hown hts hK hap hsx hI (tX6_requireBend l hst hk0 q1 H.size) cv_X6_requireBend q_t2_102 rfl rfl ⟨Nat.le_of_ble_eq_true rfl, Nat.le_of_ble_eq_true rfl⟩ hk0.1 (by simp) rfl rfl rfl hl.1 rfl (Nat.le_of_ble_eq_true rfl) (dc tbX6_corner_k 2 rfl) ⟨Nat.le_of_ble_eq_true rfl, Nat.le_of_ble_eq_true rfl⟩) hI (fun H locs hI => ?_)
    refine lv_aload_n hx hb (dc tbX6_corner_k 3 rfl) rfl (lv_at hl 0 rfl) ?_
    refine lv_iload_n hx hb (dc tbX6_corner_k 4 rfl) rfl (lv_at hl 3 rfl) ?_
    rcases calx_s hf with ⟨M7, r6, q5, hf⟩ | ⟨e8, q5, rfl⟩
    · refine x_callRv (g_runXV hx hb hml hown hts hK hap hsx hI (tX6_requireLeg l hst hk0 q5 H.size) cv_X6_requireLeg q_t5_31 rfl rfl ⟨Nat.le_of_ble_eq_true rfl, Nat.le_of_ble_eq_true rfl⟩ hk0.1 (by simp) rfl rfl rfl hl.1 rfl (Nat.le_of_ble_eq_true rfl) (dc tbX6_corner_k 5 rfl) ⟨Nat.le_of_ble_eq_true rfl, Nat.le_of_ble_eq_true rfl⟩) hI (fun H locs hI => ?_)
      refine lv_iload_n hx hb (dc tbX6_corner_k 6 rfl) rfl (lv_at hl 2 rfl) ?_
      refine lv_iconst (v := 1) hx hb (dc tbX6_corner_k 7 rfl) ic_1 ?_
      rcases calx_s hf with ⟨M11, r10, q9, hf⟩ | ⟨e12, q9, rfl⟩
      · refine x_callRv (g_runXS hx hb hml hown hts hK hap hsx hI (tX6_requireChoice l hst  q9 H.size) cs_X6_requireChoice q_t4_176 rfl rfl ⟨Nat.le_of_ble_eq_true rfl, Nat.le_of_ble_eq_true rfl⟩ rfl hl.1 rfl (Nat.le_of_ble_eq_true rfl) (dc tbX6_corner_k 8 rfl) ⟨Nat.le_of_ble_eq_true rfl, Nat.le_of_ble_eq_true rfl⟩) hI (fun H locs hI => ?_)
        refine lv_iload hx hb (dc tbX6_corner_k 9 rfl) (lv_at hl 4 rfl) ?_
        refine lv_iconst (v := 1) hx hb (dc tbX6_corner_k 10 rfl) ic_1 ?_
        rcases calx_s hf with ⟨M15, r14, q13, hf⟩ | ⟨e16, q13, rfl⟩
        · refine x_callRv (g_runXS hx hb hml hown hts hK hap hsx hI (tX6_requireChoice l hst  q13 H.size) cs_X6_requireChoice q_t4_176 rfl rfl ⟨Nat.le_of_ble_eq_true rfl, Nat.le_of_ble_eq_true rfl⟩ rfl hl.1 rfl (Nat.le_of_ble_eq_true rfl) (dc tbX6_corner_k 11 rfl) ⟨Nat.le_of_ble_eq_true rfl, Nat.le_of_ble_eq_true rfl⟩) hI (fun H locs hI => ?_)
          refine lv_aload_n hx hb (dc tbX6_corner_k 12 rfl) rfl (lv_at hl 0 rfl) ?_
          refine gg6_6 hx hb hts hown hK hI hk0.1 q_t2_68 (dc tbX6_corner_k 13 rfl) ?_
          refine lv_aload_n hx hb (dc tbX6_corner_k 14 rfl) rfl (lv_at hl 0 rfl) ?_
          refine gg6_3 hx hb hts hown hK hI hk0.1 q_t2_65 (dc tbX6_corner_k 15 rfl) ?_
          refine lv_aload_n hx hb (dc tbX6_corner_k 16 rfl) rfl (lv_at hl 0 rfl) ?_
          refine gg6_3 hx hb hts hown hK hI hk0.1 q_t2_65 (dc tbX6_corner_k 17 rfl) ?_
          refine gg1_13 hx hb hts hown hK hI hk0.2.2.2.1.1 q_t1_118 (dc tbX6_corner_k 18 rfl) ?_
          refine lv_iconst (v := 2) hx hb (dc tbX6_corner_k 19 rfl) ic_2 ?_
          refine lv_iload_n hx hb (dc tbX6_corner_k 20 rfl) rfl (lv_at hl 1 rfl) ?_
          refine lv_imul hx hb (dc tbX6_corner_k 21 rfl) ?_
          refine lv_iload_n hx hb (dc tbX6_corner_k 22 rfl) rfl (lv_at hl 2 rfl) ?_
          refine lv_iadd hx hb (dc tbX6_corner_k 23 rfl) ?_
          obtain ⟨M19, r18, q17, hf⟩ := cal_s hf
          refine g_callVv hx hb hml hown hts hK hap hsx hI (tX2_layStep l hk0.2.2.2.2.2.2.1 hk0.2.2.2.1 q17 H.size) cv_X2_layStep q_t4_184 rfl rfl ⟨Nat.le_of_ble_eq_true rfl, Nat.le_of_ble_eq_true rfl⟩ hk0.2.2.2.2.2.2.1.1 (by simp) rfl rfl rfl hl.1 rfl (Nat.le_of_ble_eq_true rfl) (dc tbX6_corner_k 24 rfl) ⟨Nat.le_of_ble_eq_true rfl, Nat.le_of_ble_eq_true rfl⟩ (fun H locs hI => ?_)
          refine lv_iload hx hb (dc tbX6_corner_k 25 rfl) (lv_at hl 4 rfl) ?_
          refine lv_if_ne (tgt := 61) hx hb (dc tbX6_corner_k 26 rfl) rfl (fun c20 => ?_) (fun c20 => ?_)
          · have hf := ite_f c20 hf
            refine lv_aload_n hx hb (dc tbX6_corner_k 33 rfl) rfl (lv_at hl 0 rfl) ?_
            refine gg6_6 hx hb hts hown hK hI hk0.1 q_t2_68 (dc tbX6_corner_k 34 rfl) ?_
            refine gg2_1 hx hb hts hown hK hI hk0.2.2.2.2.2.2.1.1 q_t1_188 (dc tbX6_corner_k 35 rfl) ?_
            refine lv_iload_n hx hb (dc tbX6_corner_k 36 rfl) rfl (lv_at hl 3 rfl) ?_
            obtain ⟨h21, hf⟩ := chk_s hf
            refine g_iald hx hb hK hI hk0.2.2.2.2.2.2.1.2.2.1 (okb_in h21) (dc tbX6_corner_k 37 rfl) ?_
            cases hf
            exact x_ret (g_iret hx hb hr hlk hI (dc tbX6_corner_k 38 rfl))
          · have hf := ite_t c20 hf
            refine lv_aload_n hx hb (dc tbX6_corner_k 27 rfl) rfl (lv_at hl 0 rfl) ?_
            refine gg6_6 hx hb hts hown hK hI hk0.1 q_t2_68 (dc tbX6_corner_k 28 rfl) ?_
            refine gg2_0 hx hb hts hown hK hI hk0.2.2.2.2.2.2.1.1 q_t1_186 (dc tbX6_corner_k 29 rfl) ?_
            refine lv_iload_n hx hb (dc tbX6_corner_k 30 rfl) rfl (lv_at hl 3 rfl) ?_
            obtain ⟨h22, hf⟩ := chk_s hf
            refine g_iald hx hb hK hI hk0.2.2.2.2.2.2.1.2.1 (okb_in h22) (dc tbX6_corner_k 31 rfl) ?_
            refine lv_goto (tgt := 70) hx hb (dc tbX6_corner_k 32 rfl) rfl ?_
            cases hf
            exact x_ret (g_iret hx hb hr hlk hI (dc tbX6_corner_k 38 rfl))
        · exact x_callT (g_runXS hx hb hml hown hts hK hap hsx hI (tX6_requireChoice l hst  q13 H.size) cs_X6_requireChoice q_t4_176 rfl rfl ⟨Nat.le_of_ble_eq_true rfl, Nat.le_of_ble_eq_true rfl⟩ rfl hl.1 rfl (Nat.le_of_ble_eq_true rfl) (dc tbX6_corner_k 11 rfl) ⟨Nat.le_of_ble_eq_true rfl, Nat.le_of_ble_eq_true rfl⟩) hI htb hlk (Nat.le_of_ble_eq_true rfl) (Nat.le_of_ble_eq_true rfl)
      · exact x_callT (g_runXS hx hb hml hown hts hK hap hsx hI (tX6_requireChoice l hst  q9 H.size) cs_X6_requireChoice q_t4_176 rfl rfl ⟨Nat.le_of_ble_eq_true rfl, Nat.le_of_ble_eq_true rfl⟩ rfl hl.1 rfl (Nat.le_of_ble_eq_true rfl) (dc tbX6_corner_k 8 rfl) ⟨Nat.le_of_ble_eq_true rfl, Nat.le_of_ble_eq_true rfl⟩) hI htb hlk (Nat.le_of_ble_eq_true rfl) (Nat.le_of_ble_eq_true rfl)
    · exact x_callT (g_runXV hx hb hml hown hts hK hap hsx hI (tX6_requireLeg l hst hk0 q5 H.size) cv_X6_requireLeg q_t5_31 rfl rfl ⟨Nat.le_of_ble_eq_true rfl, Nat.le_of_ble_eq_true rfl⟩ hk0.1 (by simp) rfl rfl rfl hl.1 rfl (Nat.le_of_ble_eq_true rfl) (dc tbX6_corner_k 5 rfl) ⟨Nat.le_of_ble_eq_true rfl, Nat.le_of_ble_eq_true rfl⟩) hI htb hlk (Nat.le_of_ble_eq_true rfl) (Nat.le_of_ble_eq_true rfl)
  · exact x_callT (g_runXV hx hb hml hown hts hK hap hsx hI (tX6_requireBend l hst hk0 q1 H.size) cv_X6_requireBend q_t2_102 rfl rfl ⟨Nat.le_of_ble_eq_true rfl, Nat.le_of_ble_eq_true rfl⟩ hk0.1 (by simp) rfl rfl rfl hl.1 rfl (Nat.le_of_ble_eq_true rfl) (dc tbX6_corner_k 2 rfl) ⟨Nat.le_of_ble_eq_true rfl, Nat.le_of_ble_eq_true rfl⟩) hI htb hlk (Nat.le_of_ble_eq_true rfl) (Nat.le_of_ble_eq_true rfl)
theorem cv_X6_corner : cvF RX6 yX6_corner cX6_corner 5 (some .int) 4 := ⟨q_t5_28, q_t5_29, q_t1_1, q_t5_30, by decide +kernel⟩
def mX6_top (k0 : Nat) (x1 : Int32) (x2 : Int32) (M : Mem) : Option (Mem × (Int32 ⊕ Nat)) := calx (mX6_requireStep k0 x1 x2 M) (fun M3 _ => cal (mX2_layStep 103 5 (rd M3 5 13) (((2 : Int32) * x1) + x2) M3) (fun M7 _ => cap (mX2_topOfFreeSide 103 M7) (fun r9 => some (M7, Sum.inl r9))))
set_option maxHeartbeats 4000000 in
set_option maxRecDepth 100000 in
theorem tX6_top (l : Launch) (hst : l.stackTraces = false) {G : GT} {kd : Nat → Nat × Nat} {ad : Nat → Nat} {k0 : Nat} (hk0 : kRoot kd k0) {x1 : Int32} {x2 : Int32} {M : Mem} {MO : Mem} {vo : Int32 ⊕ Nat} (hf : mX6_top k0 x1 x2 M = some (MO, vo)) (n : Nat) : vx_Met l yX6_top (Cond.code yX6_top cX6_top 3 (some .int) :: WA) (rmO 3 2 12) (Pg G kd ad n [.ref (ad k0), .int x1, .int x2] M) (Qx G kd ad n MO (zi vo)) (Xx G kd ad n MO (zi vo)) 2 12 (AS kd ad n) := by
  refine g_bodyX (own := RX6) (by decide) rfl ?_ (Nat.le_of_ble_eq_true rfl)
  intro p e s m args below meth c C htb _ H locs ls hI hl
  obtain ⟨hx, hb, hml, hr, hown, hts, hlk, hK, hap, hsx⟩ := id C
  have hl : lv_has ls 3 [(0, .ref (ad k0)), (1, .int x1), (2, .int x2)] := hl
  unfold mX6_top at hf
  refine lv_aload_n hx hb (dc tbX6_top_k 0 rfl) rfl (lv_at hl 0 rfl) ?_
  refine lv_iload_n hx hb (dc tbX6_top_k 1 rfl) rfl (lv_at hl 1 rfl) ?_
  refine lv_iload_n hx hb (dc tbX6_top_k 2 rfl) rfl (lv_at hl 2 rfl) ?_
  rcases calx_s hf with ⟨M3, r2, q1, hf⟩ | ⟨e4, q1, rfl⟩
  · refine x_callRv (g_runXV hx hb hml hown hts hK hap hsx hI (tX6_requireStep l hst hk0 q1 H.size) cv_X6_requireStep q_t4_172 rfl rfl ⟨Nat.le_of_ble_eq_true rfl, Nat.le_of_ble_eq_true rfl⟩ hk0.1 (by simp) rfl rfl rfl hl.1 rfl (Nat.le_of_ble_eq_true rfl) (dc tbX6_top_k 3 rfl) ⟨Nat.le_of_ble_eq_true rfl, Nat.le_of_ble_eq_true rfl⟩) hI (fun H locs hI => ?_)
    refine lv_aload_n hx hb (dc tbX6_top_k 4 rfl) rfl (lv_at hl 0 rfl) ?_
    refine gg6_6 hx hb hts hown hK hI hk0.1 q_t2_68 (dc tbX6_top_k 5 rfl) ?_
    refine lv_aload_n hx hb (dc tbX6_top_k 6 rfl) rfl (lv_at hl 0 rfl) ?_
    refine gg6_3 hx hb hts hown hK hI hk0.1 q_t2_65 (dc tbX6_top_k 7 rfl) ?_
    refine lv_aload_n hx hb (dc tbX6_top_k 8 rfl) rfl (lv_at hl 0 rfl) ?_
    refine gg6_3 hx hb hts hown hK hI hk0.1 q_t2_65 (dc tbX6_top_k 9 rfl) ?_
    refine gg1_13 hx hb hts hown hK hI hk0.2.2.2.1.1 q_t1_118 (dc tbX6_top_k 10 rfl) ?_
    refine lv_iconst (v := 2) hx hb (dc tbX6_top_k 11 rfl) ic_2 ?_
    refine lv_iload_n hx hb (dc tbX6_top_k 12 rfl) rfl (lv_at hl 1 rfl) ?_
    refine lv_imul hx hb (dc tbX6_top_k 13 rfl) ?_
    refine lv_iload_n hx hb (dc tbX6_top_k 14 rfl) rfl (lv_at hl 2 rfl) ?_
    refine lv_iadd hx hb (dc tbX6_top_k 15 rfl) ?_
    obtain ⟨M7, r6, q5, hf⟩ := cal_s hf
    refine g_callVv hx hb hml hown hts hK hap hsx hI (tX2_layStep l hk0.2.2.2.2.2.2.1 hk0.2.2.2.1 q5 H.size) cv_X2_layStep q_t4_184 rfl rfl ⟨Nat.le_of_ble_eq_true rfl, Nat.le_of_ble_eq_true rfl⟩ hk0.2.2.2.2.2.2.1.1 (by simp) rfl rfl rfl hl.1 rfl (Nat.le_of_ble_eq_true rfl) (dc tbX6_top_k 16 rfl) ⟨Nat.le_of_ble_eq_true rfl, Nat.le_of_ble_eq_true rfl⟩ (fun H locs hI => ?_)
    refine lv_aload_n hx hb (dc tbX6_top_k 17 rfl) rfl (lv_at hl 0 rfl) ?_
    refine gg6_6 hx hb hts hown hK hI hk0.1 q_t2_68 (dc tbX6_top_k 18 rfl) ?_
    obtain ⟨r9, q8, hf⟩ := cap_s hf
    refine g_callVi hx hb hml hown hts hK hap hsx hI (tX2_topOfFreeSide l hk0.2.2.2.2.2.2.1 q8 H.size) cv_X2_topOfFreeSide q_t4_207 rfl rfl ⟨Nat.le_of_ble_eq_true rfl, Nat.le_of_ble_eq_true rfl⟩ hk0.2.2.2.2.2.2.1.1 (by simp) rfl rfl rfl hl.1 rfl (Nat.le_of_ble_eq_true rfl) (dc tbX6_top_k 19 rfl) ⟨Nat.le_of_ble_eq_true rfl, Nat.le_of_ble_eq_true rfl⟩ (fun H locs hI => ?_)
    cases hf
    exact x_ret (g_iret hx hb hr hlk hI (dc tbX6_top_k 20 rfl))
  · exact x_callT (g_runXV hx hb hml hown hts hK hap hsx hI (tX6_requireStep l hst hk0 q1 H.size) cv_X6_requireStep q_t4_172 rfl rfl ⟨Nat.le_of_ble_eq_true rfl, Nat.le_of_ble_eq_true rfl⟩ hk0.1 (by simp) rfl rfl rfl hl.1 rfl (Nat.le_of_ble_eq_true rfl) (dc tbX6_top_k 3 rfl) ⟨Nat.le_of_ble_eq_true rfl, Nat.le_of_ble_eq_true rfl⟩) hI htb hlk (Nat.le_of_ble_eq_true rfl) (Nat.le_of_ble_eq_true rfl)
theorem cv_X6_top : cvF RX6 yX6_top cX6_top 3 (some .int) 2 := ⟨q_t4_204, q_t4_205, q_t1_1, q_t4_206, by decide +kernel⟩
def mX6_hitting (k0 : Nat) (x1 : Int32) (x2 : Int32) (M : Mem) : Option (Mem × (Int32 ⊕ Nat)) := calx (mX6_requireStep k0 x1 x2 M) (fun M3 _ => cal (mX2_layStep 103 5 (rd M3 5 13) (((2 : Int32) * x1) + x2) M3) (fun M7 _ => cap (mX2_legsHitting 103 5 M7) (fun r9 => some (M7, Sum.inl r9))))
set_option maxHeartbeats 4000000 in
set_option maxRecDepth 100000 in
theorem tX6_hitting (l : Launch) (hst : l.stackTraces = false) {G : GT} {kd : Nat → Nat × Nat} {ad : Nat → Nat} {k0 : Nat} (hk0 : kRoot kd k0) {x1 : Int32} {x2 : Int32} {M : Mem} {MO : Mem} {vo : Int32 ⊕ Nat} (hf : mX6_hitting k0 x1 x2 M = some (MO, vo)) (n : Nat) : vx_Met l yX6_hitting (Cond.code yX6_hitting cX6_hitting 3 (some .int) :: WA) (rmO 3 2 12) (Pg G kd ad n [.ref (ad k0), .int x1, .int x2] M) (Qx G kd ad n MO (zi vo)) (Xx G kd ad n MO (zi vo)) 2 12 (AS kd ad n) := by
  refine g_bodyX (own := RX6) (by decide) rfl ?_ (Nat.le_of_ble_eq_true rfl)
  intro p e s m args below meth c C htb _ H locs ls hI hl
  obtain ⟨hx, hb, hml, hr, hown, hts, hlk, hK, hap, hsx⟩ := id C
  have hl : lv_has ls 3 [(0, .ref (ad k0)), (1, .int x1), (2, .int x2)] := hl
  unfold mX6_hitting at hf
  refine lv_aload_n hx hb (dc tbX6_hitting_k 0 rfl) rfl (lv_at hl 0 rfl) ?_
  refine lv_iload_n hx hb (dc tbX6_hitting_k 1 rfl) rfl (lv_at hl 1 rfl) ?_
  refine lv_iload_n hx hb (dc tbX6_hitting_k 2 rfl) rfl (lv_at hl 2 rfl) ?_
  rcases calx_s hf with ⟨M3, r2, q1, hf⟩ | ⟨e4, q1, rfl⟩
  · refine x_callRv (g_runXV hx hb hml hown hts hK hap hsx hI (tX6_requireStep l hst hk0 q1 H.size) cv_X6_requireStep q_t4_172 rfl rfl ⟨Nat.le_of_ble_eq_true rfl, Nat.le_of_ble_eq_true rfl⟩ hk0.1 (by simp) rfl rfl rfl hl.1 rfl (Nat.le_of_ble_eq_true rfl) (dc tbX6_hitting_k 3 rfl) ⟨Nat.le_of_ble_eq_true rfl, Nat.le_of_ble_eq_true rfl⟩) hI (fun H locs hI => ?_)
    refine lv_aload_n hx hb (dc tbX6_hitting_k 4 rfl) rfl (lv_at hl 0 rfl) ?_
    refine gg6_6 hx hb hts hown hK hI hk0.1 q_t2_68 (dc tbX6_hitting_k 5 rfl) ?_
    refine lv_aload_n hx hb (dc tbX6_hitting_k 6 rfl) rfl (lv_at hl 0 rfl) ?_
    refine gg6_3 hx hb hts hown hK hI hk0.1 q_t2_65 (dc tbX6_hitting_k 7 rfl) ?_
    refine lv_aload_n hx hb (dc tbX6_hitting_k 8 rfl) rfl (lv_at hl 0 rfl) ?_
    refine gg6_3 hx hb hts hown hK hI hk0.1 q_t2_65 (dc tbX6_hitting_k 9 rfl) ?_
    refine gg1_13 hx hb hts hown hK hI hk0.2.2.2.1.1 q_t1_118 (dc tbX6_hitting_k 10 rfl) ?_
    refine lv_iconst (v := 2) hx hb (dc tbX6_hitting_k 11 rfl) ic_2 ?_
    refine lv_iload_n hx hb (dc tbX6_hitting_k 12 rfl) rfl (lv_at hl 1 rfl) ?_
    refine lv_imul hx hb (dc tbX6_hitting_k 13 rfl) ?_
    refine lv_iload_n hx hb (dc tbX6_hitting_k 14 rfl) rfl (lv_at hl 2 rfl) ?_
    refine lv_iadd hx hb (dc tbX6_hitting_k 15 rfl) ?_
    obtain ⟨M7, r6, q5, hf⟩ := cal_s hf
    refine g_callVv hx hb hml hown hts hK hap hsx hI (tX2_layStep l hk0.2.2.2.2.2.2.1 hk0.2.2.2.1 q5 H.size) cv_X2_layStep q_t4_184 rfl rfl ⟨Nat.le_of_ble_eq_true rfl, Nat.le_of_ble_eq_true rfl⟩ hk0.2.2.2.2.2.2.1.1 (by simp) rfl rfl rfl hl.1 rfl (Nat.le_of_ble_eq_true rfl) (dc tbX6_hitting_k 16 rfl) ⟨Nat.le_of_ble_eq_true rfl, Nat.le_of_ble_eq_true rfl⟩ (fun H locs hI => ?_)
    refine lv_aload_n hx hb (dc tbX6_hitting_k 17 rfl) rfl (lv_at hl 0 rfl) ?_
    refine gg6_6 hx hb hts hown hK hI hk0.1 q_t2_68 (dc tbX6_hitting_k 18 rfl) ?_
    refine lv_aload_n hx hb (dc tbX6_hitting_k 19 rfl) rfl (lv_at hl 0 rfl) ?_
    refine gg6_3 hx hb hts hown hK hI hk0.1 q_t2_65 (dc tbX6_hitting_k 20 rfl) ?_
    obtain ⟨r9, q8, hf⟩ := cap_s hf
    refine g_callVi hx hb hml hown hts hK hap hsx hI (tX2_legsHitting l hk0.2.2.2.2.2.2.1 hk0.2.2.2.1 q8 H.size) cv_X2_legsHitting q_t4_215 rfl rfl ⟨Nat.le_of_ble_eq_true rfl, Nat.le_of_ble_eq_true rfl⟩ hk0.2.2.2.2.2.2.1.1 (by simp) rfl rfl rfl hl.1 rfl (Nat.le_of_ble_eq_true rfl) (dc tbX6_hitting_k 21 rfl) ⟨Nat.le_of_ble_eq_true rfl, Nat.le_of_ble_eq_true rfl⟩ (fun H locs hI => ?_)
    cases hf
    exact x_ret (g_iret hx hb hr hlk hI (dc tbX6_hitting_k 22 rfl))
  · exact x_callT (g_runXV hx hb hml hown hts hK hap hsx hI (tX6_requireStep l hst hk0 q1 H.size) cv_X6_requireStep q_t4_172 rfl rfl ⟨Nat.le_of_ble_eq_true rfl, Nat.le_of_ble_eq_true rfl⟩ hk0.1 (by simp) rfl rfl rfl hl.1 rfl (Nat.le_of_ble_eq_true rfl) (dc tbX6_hitting_k 3 rfl) ⟨Nat.le_of_ble_eq_true rfl, Nat.le_of_ble_eq_true rfl⟩) hI htb hlk (Nat.le_of_ble_eq_true rfl) (Nat.le_of_ble_eq_true rfl)
theorem cv_X6_hitting : cvF RX6 yX6_hitting cX6_hitting 3 (some .int) 2 := ⟨q_t4_212, q_t4_213, q_t1_1, q_t4_214, by decide +kernel⟩
def mX6_possible (k0 : Nat) (M : Mem) : Option (Mem × Int32) := cal (mX2_possibleSteps 103 5 (rd M 5 13) M) (fun M3 r2 => some (M3, r2))
set_option maxHeartbeats 4000000 in
set_option maxRecDepth 100000 in
theorem tX6_possible (l : Launch) {G : GT} {kd : Nat → Nat × Nat} {ad : Nat → Nat} {k0 : Nat} (hk0 : kRoot kd k0) {M : Mem} {MO : Mem} {vo : Int32} (hf : mX6_possible k0 M = some (MO, vo)) (n : Nat) : Met l yX6_possible (Cond.code yX6_possible cX6_possible 1 (some .int) :: WA) (rmO 4 0 0) (Pg G kd ad n [.ref (ad k0)] M) (Qg G kd ad n MO (some (.int vo))) 0 0 (AS kd ad n) := by
  refine g_body (own := RX6) (by decide) rfl ?_ (Nat.le_of_ble_eq_true rfl)
  intro p e s m args below meth c C _ H locs ls hI hl
  obtain ⟨hx, hb, hml, hr, hown, hts, hlk, hK, hap, hsx⟩ := id C
  have hl : lv_has ls 1 [(0, .ref (ad k0))] := hl
  unfold mX6_possible at hf
  refine lv_aload_n hx hb (dc tbX6_possible_k 0 rfl) rfl (lv_at hl 0 rfl) ?_
  refine gg6_6 hx hb hts hown hK hI hk0.1 q_t2_68 (dc tbX6_possible_k 1 rfl) ?_
  refine lv_aload_n hx hb (dc tbX6_possible_k 2 rfl) rfl (lv_at hl 0 rfl) ?_
  refine gg6_3 hx hb hts hown hK hI hk0.1 q_t2_65 (dc tbX6_possible_k 3 rfl) ?_
  refine lv_aload_n hx hb (dc tbX6_possible_k 4 rfl) rfl (lv_at hl 0 rfl) ?_
  refine gg6_3 hx hb hts hown hK hI hk0.1 q_t2_65 (dc tbX6_possible_k 5 rfl) ?_
  refine gg1_13 hx hb hts hown hK hI hk0.2.2.2.1.1 q_t1_118 (dc tbX6_possible_k 6 rfl) ?_
  obtain ⟨M3, r2, q1, hf⟩ := cal_s hf
  refine g_callVi hx hb hml hown hts hK hap hsx hI (tX2_possibleSteps l hk0.2.2.2.2.2.2.1 hk0.2.2.2.1 q1 H.size) cv_X2_possibleSteps q_t5_40 rfl rfl ⟨Nat.le_of_ble_eq_true rfl, Nat.le_of_ble_eq_true rfl⟩ hk0.2.2.2.2.2.2.1.1 (by simp) rfl rfl rfl hl.1 rfl (Nat.le_of_ble_eq_true rfl) (dc tbX6_possible_k 7 rfl) ⟨Nat.le_of_ble_eq_true rfl, Nat.le_of_ble_eq_true rfl⟩ (fun H locs hI => ?_)
  cases hf
  exact g_iret hx hb hr hlk hI (dc tbX6_possible_k 8 rfl)
theorem cv_X6_possible : cvF RX6 yX6_possible cX6_possible 1 (some .int) 0 := ⟨q_t5_37, q_t5_38, q_t1_1, q_t5_39, by decide +kernel⟩
def mX6_costNow (k0 : Nat) (x1 : Int32) (M : Mem) : Option (Mem × Int32) := cap (mX1_lastCode 5 M) (fun r2 => cap (mX1_lastGauge 5 M) (fun r5 => cal (mX6_gaugeNow k0 x1 M) (fun M9 r8 => cap (mX1_priceBetween 5 r2 r5 x1 r8 M9) (fun r11 => some (M9, r11)))))
set_option maxHeartbeats 4000000 in
set_option maxRecDepth 100000 in
theorem tX6_costNow (l : Launch) {G : GT} {kd : Nat → Nat × Nat} {ad : Nat → Nat} {k0 : Nat} (hk0 : kRoot kd k0) {x1 : Int32} {M : Mem} {MO : Mem} {vo : Int32} (hf : mX6_costNow k0 x1 M = some (MO, vo)) (n : Nat) : Met l yX6_costNow (Cond.code yX6_costNow cX6_costNow 2 (some .int) :: WA) (rmO 3 0 0) (Pg G kd ad n [.ref (ad k0), .int x1] M) (Qg G kd ad n MO (some (.int vo))) 0 0 (AS kd ad n) := by
  refine g_body (own := RX6) (by decide) rfl ?_ (Nat.le_of_ble_eq_true rfl)
  intro p e s m args below meth c C _ H locs ls hI hl
  obtain ⟨hx, hb, hml, hr, hown, hts, hlk, hK, hap, hsx⟩ := id C
  have hl : lv_has ls 2 [(0, .ref (ad k0)), (1, .int x1)] := hl
  unfold mX6_costNow at hf
  refine lv_aload_n hx hb (dc tbX6_costNow_k 0 rfl) rfl (lv_at hl 0 rfl) ?_
  refine gg6_3 hx hb hts hown hK hI hk0.1 q_t2_65 (dc tbX6_costNow_k 1 rfl) ?_
  refine lv_aload_n hx hb (dc tbX6_costNow_k 2 rfl) rfl (lv_at hl 0 rfl) ?_
  refine gg6_3 hx hb hts hown hK hI hk0.1 q_t2_65 (dc tbX6_costNow_k 3 rfl) ?_
  obtain ⟨r2, q1, hf⟩ := cap_s hf
  refine g_callVi hx hb hml hown hts hK hap hsx hI (tX1_lastCode l hk0.2.2.2.1 q1 H.size) cv_X1_lastCode q_t5_14 rfl rfl ⟨Nat.le_of_ble_eq_true rfl, Nat.le_of_ble_eq_true rfl⟩ hk0.2.2.2.1.1 (by simp) rfl rfl rfl hl.1 rfl (Nat.le_of_ble_eq_true rfl) (dc tbX6_costNow_k 4 rfl) ⟨Nat.le_of_ble_eq_true rfl, Nat.le_of_ble_eq_true rfl⟩ (fun H locs hI => ?_)
  refine lv_aload_n hx hb (dc tbX6_costNow_k 5 rfl) rfl (lv_at hl 0 rfl) ?_
  refine gg6_3 hx hb hts hown hK hI hk0.1 q_t2_65 (dc tbX6_costNow_k 6 rfl) ?_
  obtain ⟨r5, q4, hf⟩ := cap_s hf
  refine g_callVi hx hb hml hown hts hK hap hsx hI (tX1_lastGauge l hk0.2.2.2.1 q4 H.size) cv_X1_lastGauge q_t5_18 rfl rfl ⟨Nat.le_of_ble_eq_true rfl, Nat.le_of_ble_eq_true rfl⟩ hk0.2.2.2.1.1 (by simp) rfl rfl rfl hl.1 rfl (Nat.le_of_ble_eq_true rfl) (dc tbX6_costNow_k 7 rfl) ⟨Nat.le_of_ble_eq_true rfl, Nat.le_of_ble_eq_true rfl⟩ (fun H locs hI => ?_)
  refine lv_iload_n hx hb (dc tbX6_costNow_k 8 rfl) rfl (lv_at hl 1 rfl) ?_
  refine lv_aload_n hx hb (dc tbX6_costNow_k 9 rfl) rfl (lv_at hl 0 rfl) ?_
  refine lv_iload_n hx hb (dc tbX6_costNow_k 10 rfl) rfl (lv_at hl 1 rfl) ?_
  obtain ⟨M9, r8, q7, hf⟩ := cal_s hf
  refine g_callVi hx hb hml hown hts hK hap hsx hI (tX6_gaugeNow l hk0 q7 H.size) cv_X6_gaugeNow q_t4_180 rfl rfl ⟨Nat.le_of_ble_eq_true rfl, Nat.le_of_ble_eq_true rfl⟩ hk0.1 (by simp) rfl rfl rfl hl.1 rfl (Nat.le_of_ble_eq_true rfl) (dc tbX6_costNow_k 11 rfl) ⟨Nat.le_of_ble_eq_true rfl, Nat.le_of_ble_eq_true rfl⟩ (fun H locs hI => ?_)
  obtain ⟨r11, q10, hf⟩ := cap_s hf
  refine g_callVi hx hb hml hown hts hK hap hsx hI (tX1_priceBetween l hk0.2.2.2.1 q10 H.size) cv_X1_priceBetween q_t5_22 rfl rfl ⟨Nat.le_of_ble_eq_true rfl, Nat.le_of_ble_eq_true rfl⟩ hk0.2.2.2.1.1 (by simp) rfl rfl rfl hl.1 rfl (Nat.le_of_ble_eq_true rfl) (dc tbX6_costNow_k 12 rfl) ⟨Nat.le_of_ble_eq_true rfl, Nat.le_of_ble_eq_true rfl⟩ (fun H locs hI => ?_)
  cases hf
  exact g_iret hx hb hr hlk hI (dc tbX6_costNow_k 13 rfl)
theorem cv_X6_costNow : cvF RX6 yX6_costNow cX6_costNow 2 (some .int) 1 := ⟨q_t5_12, q_s2_7, q_t1_1, q_t5_13, by decide +kernel⟩
def mX6_costOf (k0 : Nat) (x1 : Int32) (x2 : Int32) (M : Mem) : Option (Mem × (Int32 ⊕ Nat)) := calx (mX6_requireStep k0 x1 x2 M) (fun M3 _ => cal (mX6_costNow k0 (((2 : Int32) * x1) + x2) M3) (fun M7 r6 => some (M7, Sum.inl r6)))
set_option maxHeartbeats 4000000 in
set_option maxRecDepth 100000 in
theorem tX6_costOf (l : Launch) (hst : l.stackTraces = false) {G : GT} {kd : Nat → Nat × Nat} {ad : Nat → Nat} {k0 : Nat} (hk0 : kRoot kd k0) {x1 : Int32} {x2 : Int32} {M : Mem} {MO : Mem} {vo : Int32 ⊕ Nat} (hf : mX6_costOf k0 x1 x2 M = some (MO, vo)) (n : Nat) : vx_Met l yX6_costOf (Cond.code yX6_costOf cX6_costOf 3 (some .int) :: WA) (rmO 4 2 12) (Pg G kd ad n [.ref (ad k0), .int x1, .int x2] M) (Qx G kd ad n MO (zi vo)) (Xx G kd ad n MO (zi vo)) 2 12 (AS kd ad n) := by
  refine g_bodyX (own := RX6) (by decide) rfl ?_ (Nat.le_of_ble_eq_true rfl)
  intro p e s m args below meth c C htb _ H locs ls hI hl
  obtain ⟨hx, hb, hml, hr, hown, hts, hlk, hK, hap, hsx⟩ := id C
  have hl : lv_has ls 3 [(0, .ref (ad k0)), (1, .int x1), (2, .int x2)] := hl
  unfold mX6_costOf at hf
  refine lv_aload_n hx hb (dc tbX6_costOf_k 0 rfl) rfl (lv_at hl 0 rfl) ?_
  refine lv_iload_n hx hb (dc tbX6_costOf_k 1 rfl) rfl (lv_at hl 1 rfl) ?_
  refine lv_iload_n hx hb (dc tbX6_costOf_k 2 rfl) rfl (lv_at hl 2 rfl) ?_
  rcases calx_s hf with ⟨M3, r2, q1, hf⟩ | ⟨e4, q1, rfl⟩
  · refine x_callRv (g_runXV hx hb hml hown hts hK hap hsx hI (tX6_requireStep l hst hk0 q1 H.size) cv_X6_requireStep q_t4_172 rfl rfl ⟨Nat.le_of_ble_eq_true rfl, Nat.le_of_ble_eq_true rfl⟩ hk0.1 (by simp) rfl rfl rfl hl.1 rfl (Nat.le_of_ble_eq_true rfl) (dc tbX6_costOf_k 3 rfl) ⟨Nat.le_of_ble_eq_true rfl, Nat.le_of_ble_eq_true rfl⟩) hI (fun H locs hI => ?_)
    refine lv_aload_n hx hb (dc tbX6_costOf_k 4 rfl) rfl (lv_at hl 0 rfl) ?_
    refine lv_iconst (v := 2) hx hb (dc tbX6_costOf_k 5 rfl) ic_2 ?_
    refine lv_iload_n hx hb (dc tbX6_costOf_k 6 rfl) rfl (lv_at hl 1 rfl) ?_
    refine lv_imul hx hb (dc tbX6_costOf_k 7 rfl) ?_
    refine lv_iload_n hx hb (dc tbX6_costOf_k 8 rfl) rfl (lv_at hl 2 rfl) ?_
    refine lv_iadd hx hb (dc tbX6_costOf_k 9 rfl) ?_
    obtain ⟨M7, r6, q5, hf⟩ := cal_s hf
    refine g_callVi hx hb hml hown hts hK hap hsx hI (tX6_costNow l hk0 q5 H.size) cv_X6_costNow q_t5_10 rfl rfl ⟨Nat.le_of_ble_eq_true rfl, Nat.le_of_ble_eq_true rfl⟩ hk0.1 (by simp) rfl rfl rfl hl.1 rfl (Nat.le_of_ble_eq_true rfl) (dc tbX6_costOf_k 10 rfl) ⟨Nat.le_of_ble_eq_true rfl, Nat.le_of_ble_eq_true rfl⟩ (fun H locs hI => ?_)
    cases hf
    exact x_ret (g_iret hx hb hr hlk hI (dc tbX6_costOf_k 11 rfl))
  · exact x_callT (g_runXV hx hb hml hown hts hK hap hsx hI (tX6_requireStep l hst hk0 q1 H.size) cv_X6_requireStep q_t4_172 rfl rfl ⟨Nat.le_of_ble_eq_true rfl, Nat.le_of_ble_eq_true rfl⟩ hk0.1 (by simp) rfl rfl rfl hl.1 rfl (Nat.le_of_ble_eq_true rfl) (dc tbX6_costOf_k 3 rfl) ⟨Nat.le_of_ble_eq_true rfl, Nat.le_of_ble_eq_true rfl⟩) hI htb hlk (Nat.le_of_ble_eq_true rfl) (Nat.le_of_ble_eq_true rfl)
theorem cv_X6_costOf : cvF RX6 yX6_costOf cX6_costOf 3 (some .int) 2 := ⟨q_t5_7, q_t5_8, q_t1_1, q_t5_9, by decide +kernel⟩
def mX6_makeStep (k0 : Nat) (x1 : Int32) (M : Mem) : Option (Mem × Int32) := cal (mX6_costNow k0 x1 M) (fun M3 r2 => cal (mX0_remember 21 5 M3) (fun M6 _ => cal (mX6_gaugeNow k0 x1 M6) (fun M9 r8 => cal (mX1_addStep 5 x1 r8 r2 M9) (fun M12 _ => some (M12, r2)))))
set_option maxHeartbeats 4000000 in
set_option maxRecDepth 100000 in
theorem tX6_makeStep (l : Launch) {G : GT} {kd : Nat → Nat × Nat} {ad : Nat → Nat} {k0 : Nat} (hk0 : kRoot kd k0) {x1 : Int32} {M : Mem} {MO : Mem} {vo : Int32} (hf : mX6_makeStep k0 x1 M = some (MO, vo)) (n : Nat) : Met l yX6_makeStep (Cond.code yX6_makeStep cX6_makeStep 3 (some .int) :: WA) (rmO 4 0 0) (Pg G kd ad n [.ref (ad k0), .int x1] M) (Qg G kd ad n MO (some (.int vo))) 0 0 (AS kd ad n) := by
  refine g_body (own := RX6) (by decide) rfl ?_ (Nat.le_of_ble_eq_true rfl)
  intro p e s m args below meth c C _ H locs ls hI hl
  obtain ⟨hx, hb, hml, hr, hown, hts, hlk, hK, hap, hsx⟩ := id C
  have hl : lv_has ls 3 [(0, .ref (ad k0)), (1, .int x1)] := hl
  unfold mX6_makeStep at hf
  refine lv_aload_n hx hb (dc tbX6_makeStep_k 0 rfl) rfl (lv_at hl 0 rfl) ?_
  refine lv_iload_n hx hb (dc tbX6_makeStep_k 1 rfl) rfl (lv_at hl 1 rfl) ?_
  obtain ⟨M3, r2, q1, hf⟩ := cal_s hf
  refine g_callVi hx hb hml hown hts hK hap hsx hI (tX6_costNow l hk0 q1 H.size) cv_X6_costNow q_t5_10 rfl rfl ⟨Nat.le_of_ble_eq_true rfl, Nat.le_of_ble_eq_true rfl⟩ hk0.1 (by simp) rfl rfl rfl hl.1 rfl (Nat.le_of_ble_eq_true rfl) (dc tbX6_makeStep_k 2 rfl) ⟨Nat.le_of_ble_eq_true rfl, Nat.le_of_ble_eq_true rfl⟩ (fun H locs hI => ?_)
  refine lv_istore_n (lv' := [(2, .int r2), (0, .ref (ad k0)), (1, .int x1)]) hx hb (dc tbX6_makeStep_k 3 rfl) rfl hl (by decide) rfl (fun ls hl => ?_)
  refine lv_aload_n hx hb (dc tbX6_makeStep_k 4 rfl) rfl (lv_at hl 1 rfl) ?_
  refine gg6_5 hx hb hts hown hK hI hk0.1 q_t2_67 (dc tbX6_makeStep_k 5 rfl) ?_
  refine lv_aload_n hx hb (dc tbX6_makeStep_k 6 rfl) rfl (lv_at hl 1 rfl) ?_
  refine gg6_3 hx hb hts hown hK hI hk0.1 q_t2_65 (dc tbX6_makeStep_k 7 rfl) ?_
  obtain ⟨M6, r5, q4, hf⟩ := cal_s hf
  refine g_callVv hx hb hml hown hts hK hap hsx hI (tX0_remember l hk0.2.2.2.2.2.1 hk0.2.2.2.1 q4 H.size) cv_X0_remember q_t5_99 rfl rfl ⟨Nat.le_of_ble_eq_true rfl, Nat.le_of_ble_eq_true rfl⟩ hk0.2.2.2.2.2.1.1 (by simp) rfl rfl rfl hl.1 rfl (Nat.le_of_ble_eq_true rfl) (dc tbX6_makeStep_k 8 rfl) ⟨Nat.le_of_ble_eq_true rfl, Nat.le_of_ble_eq_true rfl⟩ (fun H locs hI => ?_)
  refine lv_aload_n hx hb (dc tbX6_makeStep_k 9 rfl) rfl (lv_at hl 1 rfl) ?_
  refine gg6_3 hx hb hts hown hK hI hk0.1 q_t2_65 (dc tbX6_makeStep_k 10 rfl) ?_
  refine lv_iload_n hx hb (dc tbX6_makeStep_k 11 rfl) rfl (lv_at hl 2 rfl) ?_
  refine lv_aload_n hx hb (dc tbX6_makeStep_k 12 rfl) rfl (lv_at hl 1 rfl) ?_
  refine lv_iload_n hx hb (dc tbX6_makeStep_k 13 rfl) rfl (lv_at hl 2 rfl) ?_
  obtain ⟨M9, r8, q7, hf⟩ := cal_s hf
  refine g_callVi hx hb hml hown hts hK hap hsx hI (tX6_gaugeNow l hk0 q7 H.size) cv_X6_gaugeNow q_t4_180 rfl rfl ⟨Nat.le_of_ble_eq_true rfl, Nat.le_of_ble_eq_true rfl⟩ hk0.1 (by simp) rfl rfl rfl hl.1 rfl (Nat.le_of_ble_eq_true rfl) (dc tbX6_makeStep_k 14 rfl) ⟨Nat.le_of_ble_eq_true rfl, Nat.le_of_ble_eq_true rfl⟩ (fun H locs hI => ?_)
  refine lv_iload_n hx hb (dc tbX6_makeStep_k 15 rfl) rfl (lv_at hl 0 rfl) ?_
  obtain ⟨M12, r11, q10, hf⟩ := cal_s hf
  refine g_callVv hx hb hml hown hts hK hap hsx hI (tX1_addStep l hk0.2.2.2.1 q10 H.size) cv_X1_addStep q_t5_104 rfl rfl ⟨Nat.le_of_ble_eq_true rfl, Nat.le_of_ble_eq_true rfl⟩ hk0.2.2.2.1.1 (by simp) rfl rfl rfl hl.1 rfl (Nat.le_of_ble_eq_true rfl) (dc tbX6_makeStep_k 16 rfl) ⟨Nat.le_of_ble_eq_true rfl, Nat.le_of_ble_eq_true rfl⟩ (fun H locs hI => ?_)
  refine lv_iload_n hx hb (dc tbX6_makeStep_k 17 rfl) rfl (lv_at hl 0 rfl) ?_
  cases hf
  exact g_iret hx hb hr hlk hI (dc tbX6_makeStep_k 18 rfl)
theorem cv_X6_makeStep : cvF RX6 yX6_makeStep cX6_makeStep 3 (some .int) 1 := ⟨q_t5_97, q_s2_10, q_t1_1, q_t5_98, by decide +kernel⟩
def mX6_fold (k0 : Nat) (x1 : Int32) (x2 : Int32) (M : Mem) : Option (Mem × (Int32 ⊕ Nat)) := calx (mX6_requireStep k0 x1 x2 M) (fun M3 _ => cal (mX6_reasonNow k0 (((2 : Int32) * x1) + x2) M3) (fun M7 r6 => ite2 (r6 = 0) (cal (mX6_makeStep k0 (((2 : Int32) * x1) + x2) M7) (fun M11 r10 => some (M11, Sum.inl r10))) (some (M7, Sum.inr 2))))
set_option maxHeartbeats 4000000 in
set_option maxRecDepth 100000 in
theorem tX6_fold (l : Launch) (hst : l.stackTraces = false) {G : GT} {kd : Nat → Nat × Nat} {ad : Nat → Nat} {k0 : Nat} (hk0 : kRoot kd k0) {x1 : Int32} {x2 : Int32} {M : Mem} {MO : Mem} {vo : Int32 ⊕ Nat} (hf : mX6_fold k0 x1 x2 M = some (MO, vo)) (n : Nat) : vx_Met l yX6_fold (Cond.code yX6_fold cX6_fold 3 (some .int) :: WA) (rmO 5 3 18) (Pg G kd ad n [.ref (ad k0), .int x1, .int x2] M) (Qx G kd ad n MO (zi vo)) (Xx G kd ad n MO (zi vo)) 3 18 (AS kd ad n) := by
  refine g_bodyX (own := RX6) (by decide) rfl ?_ (Nat.le_of_ble_eq_true rfl)
  intro p e s m args below meth c C htb _ H locs ls hI hl
  obtain ⟨hx, hb, hml, hr, hown, hts, hlk, hK, hap, hsx⟩ := id C
  have hl : lv_has ls 3 [(0, .ref (ad k0)), (1, .int x1), (2, .int x2)] := hl
  unfold mX6_fold at hf
  refine lv_aload_n hx hb (dc tbX6_fold_k 0 rfl) rfl (lv_at hl 0 rfl) ?_
  refine lv_iload_n hx hb (dc tbX6_fold_k 1 rfl) rfl (lv_at hl 1 rfl) ?_
  refine lv_iload_n hx hb (dc tbX6_fold_k 2 rfl) rfl (lv_at hl 2 rfl) ?_
  rcases calx_s hf with ⟨M3, r2, q1, hf⟩ | ⟨e4, q1, rfl⟩
  · refine x_callRv (g_runXV hx hb hml hown hts hK hap hsx hI (tX6_requireStep l hst hk0 q1 H.size) cv_X6_requireStep q_t4_172 rfl rfl ⟨Nat.le_of_ble_eq_true rfl, Nat.le_of_ble_eq_true rfl⟩ hk0.1 (by simp) rfl rfl rfl hl.1 rfl (Nat.le_of_ble_eq_true rfl) (dc tbX6_fold_k 3 rfl) ⟨Nat.le_of_ble_eq_true rfl, Nat.le_of_ble_eq_true rfl⟩) hI (fun H locs hI => ?_)
    refine lv_aload_n hx hb (dc tbX6_fold_k 4 rfl) rfl (lv_at hl 0 rfl) ?_
    refine lv_iconst (v := 2) hx hb (dc tbX6_fold_k 5 rfl) ic_2 ?_
    refine lv_iload_n hx hb (dc tbX6_fold_k 6 rfl) rfl (lv_at hl 1 rfl) ?_
    refine lv_imul hx hb (dc tbX6_fold_k 7 rfl) ?_
    refine lv_iload_n hx hb (dc tbX6_fold_k 8 rfl) rfl (lv_at hl 2 rfl) ?_
    refine lv_iadd hx hb (dc tbX6_fold_k 9 rfl) ?_
    obtain ⟨M7, r6, q5, hf⟩ := cal_s hf
    refine g_callVi hx hb hml hown hts hK hap hsx hI (tX6_reasonNow l hk0 q5 H.size) cv_X6_reasonNow q_t4_227 rfl rfl ⟨Nat.le_of_ble_eq_true rfl, Nat.le_of_ble_eq_true rfl⟩ hk0.1 (by simp) rfl rfl rfl hl.1 rfl (Nat.le_of_ble_eq_true rfl) (dc tbX6_fold_k 10 rfl) ⟨Nat.le_of_ble_eq_true rfl, Nat.le_of_ble_eq_true rfl⟩ (fun H locs hI => ?_)
    refine lv_if_eq (tgt := 29) hx hb (dc tbX6_fold_k 11 rfl) rfl (fun c8 => ?_) (fun c8 => ?_)
    · have hf := ite_t c8 hf
      refine lv_aload_n hx hb (dc tbX6_fold_k 17 rfl) rfl (lv_at hl 0 rfl) ?_
      refine lv_iconst (v := 2) hx hb (dc tbX6_fold_k 18 rfl) ic_2 ?_
      refine lv_iload_n hx hb (dc tbX6_fold_k 19 rfl) rfl (lv_at hl 1 rfl) ?_
      refine lv_imul hx hb (dc tbX6_fold_k 20 rfl) ?_
      refine lv_iload_n hx hb (dc tbX6_fold_k 21 rfl) rfl (lv_at hl 2 rfl) ?_
      refine lv_iadd hx hb (dc tbX6_fold_k 22 rfl) ?_
      obtain ⟨M11, r10, q9, hf⟩ := cal_s hf
      refine g_callVi hx hb hml hown hts hK hap hsx hI (tX6_makeStep l hk0 q9 H.size) cv_X6_makeStep q_t5_95 rfl rfl ⟨Nat.le_of_ble_eq_true rfl, Nat.le_of_ble_eq_true rfl⟩ hk0.1 (by simp) rfl rfl rfl hl.1 rfl (Nat.le_of_ble_eq_true rfl) (dc tbX6_fold_k 23 rfl) ⟨Nat.le_of_ble_eq_true rfl, Nat.le_of_ble_eq_true rfl⟩ (fun H locs hI => ?_)
      cases hf
      refine W.widen (k := 3) (n := 18) (Nat.le_of_ble_eq_true rfl) (Nat.le_of_ble_eq_true rfl) ?_
      exact x_ret (g_iret hx hb hr hlk hI (dc tbX6_fold_k 24 rfl))
    · have hf := ite_f c8 hf
      cases hf
      exact x_throw (text := "the step is refused") (e9 := 2) true hx hb hst hml hown hts hlk hsx htb (by decide +kernel) fit_n q_t5_79 q_t1_25 (by decide +kernel) at_ise nb_ise gd_ise_276 rfl hI hl.1 (dc tbX6_fold_k 12 rfl) (dc tbX6_fold_k 13 rfl) (dc tbX6_fold_k 14 rfl) (dc tbX6_fold_k 15 rfl) (dc tbX6_fold_k 16 rfl) (Nat.le_of_ble_eq_true rfl) (Nat.le_of_ble_eq_true rfl) ⟨Nat.le_of_ble_eq_true rfl, Nat.le_of_ble_eq_true rfl⟩ (Nat.le_of_ble_eq_true rfl) (Nat.le_of_ble_eq_true rfl)
  · exact x_callT (g_runXV hx hb hml hown hts hK hap hsx hI (tX6_requireStep l hst hk0 q1 H.size) cv_X6_requireStep q_t4_172 rfl rfl ⟨Nat.le_of_ble_eq_true rfl, Nat.le_of_ble_eq_true rfl⟩ hk0.1 (by simp) rfl rfl rfl hl.1 rfl (Nat.le_of_ble_eq_true rfl) (dc tbX6_fold_k 3 rfl) ⟨Nat.le_of_ble_eq_true rfl, Nat.le_of_ble_eq_true rfl⟩) hI htb hlk (Nat.le_of_ble_eq_true rfl) (Nat.le_of_ble_eq_true rfl)
theorem cv_X6_fold : cvF RX6 yX6_fold cX6_fold 3 (some .int) 2 := ⟨q_t5_76, q_t5_77, q_t1_1, q_t5_78, by decide +kernel⟩
