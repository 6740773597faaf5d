def mX6_append_b40 (k0 : Nat) (ih3 : Int32 → Int32 → Mem → Option (Mem × Unit)) (x1 : Int32) (x2 : Int32) (M : Mem) : Option (Mem × Unit) := bnd (x2 + (-8 : Int32)) (fun x2_40 => ih3 x1 x2_40 M)
set_option maxHeartbeats 4000000 in
set_option maxRecDepth 100000 in
theorem tX6_append_b40 {p : Program} {l : Launch} {e : Env} {s : State} {m : MethodId} {args : Array Value} {below : List Frame} {meth : Method} {c : Code} {G : GT} {kd : Nat → Nat × Nat} {ad : Nat → Nat} (C : Cx p s m args meth c cX6_append 3 none RX6 G kd ad) {k0 : Nat} (hk0 : kRoot kd k0) {MO : Mem} {vo : Unit} {ih3 : Int32 → Int32 → Mem → Option (Mem × Unit)} (hih3 : ∀ (x1 : Int32) (x2 : Int32) (M : Mem), ih3 x1 x2 M = some (MO, vo) → At p l e (rmO 0 0 0) s m args below meth c 0 0 (MQ below (Qg G kd ad s.heap.size MO none) args s 0 0 (AS kd ad s.heap.size)) G kd ad 3 3 [(0, .ref (ad k0)), (1, .int x1), (2, .int x2)] [] M) : ∀ (x1 : Int32) (x2 : Int32) (M : Mem), mX6_append_b40 k0 ih3 x1 x2 M = some (MO, vo) → At p l e (rmO 0 0 0) s m args below meth c 0 0 (MQ below (Qg G kd ad s.heap.size MO none) args s 0 0 (AS kd ad s.heap.size)) G kd ad 3 40 [(0, .ref (ad k0)), (1, .int x1), (2, .int x2)] [] M := by
  intro x1 x2 M hf H locs ls hI hl
  obtain ⟨hx, hb, hml, hr, hown, hts, hlk, hK, hap, hsx⟩ := id C
  unfold mX6_append_b40 at hf
  obtain ⟨x2_40, e3, hf⟩ := bnd_s hf
  refine lv_iinc (v := x2_40) (lv' := [(2, .int x2_40), (0, .ref (ad k0)), (1, .int x1)]) hx hb (dc tbX6_append_k 23 rfl) hl (k := 2) rfl (ii_e e3 ic_m8) (by decide) rfl (fun ls hl => ?_)
  refine lv_goto (tgt := 3) hx hb (dc tbX6_append_k 24 rfl) rfl ?_
  exact hih3 x1 x2_40 M hf _ _ _ hI (lv_sub hl [1, 2, 0] rfl)
def mX6_append_b3 (k0 : Nat) (ih3 : Int32 → Int32 → Mem → Option (Mem × Unit)) (x1 : Int32) (x2 : Int32) (M : Mem) : Option (Mem × Unit) := ite2 (x2 < 0) (some (M, ())) (ite2 ((600 : Int32) ≤ (rd M k0 1)) (mX6_append_b40 k0 ih3 x1 x2 M) (chk (okb (rd M k0 1) 600) (bnd (wr M 1 ((rd M k0 1)).toNatClampNeg (vp_nar .byte ((x1 >>> (x2 &&& 31))).toInt8.toInt32)) (fun M6 => bnd (wr M6 k0 1 ((rd M6 k0 1) + (1 : Int32))) (fun M7 => mX6_append_b40 k0 ih3 x1 x2 M7)))))
set_option maxHeartbeats 4000000 in
set_option maxRecDepth 100000 in
theorem tX6_append_b3 {p : Program} {l : Launch} {e : Env} {s : State} {m : MethodId} {args : Array Value} {below : List Frame} {meth : Method} {c : Code} {G : GT} {kd : Nat → Nat × Nat} {ad : Nat → Nat} (C : Cx p s m args meth c cX6_append 3 none RX6 G kd ad) {k0 : Nat} (hk0 : kRoot kd k0) {MO : Mem} {vo : Unit} {ih3 : Int32 → Int32 → Mem → Option (Mem × Unit)} (hih3 : ∀ (x1 : Int32) (x2 : Int32) (M : Mem), ih3 x1 x2 M = some (MO, vo) → At p l e (rmO 0 0 0) s m args below meth c 0 0 (MQ below (Qg G kd ad s.heap.size MO none) args s 0 0 (AS kd ad s.heap.size)) G kd ad 3 3 [(0, .ref (ad k0)), (1, .int x1), (2, .int x2)] [] M) : ∀ (x1 : Int32) (x2 : Int32) (M : Mem), mX6_append_b3 k0 ih3 x1 x2 M = some (MO, vo) → At p l e (rmO 0 0 0) s m args below meth c 0 0 (MQ below (Qg G kd ad s.heap.size MO none) args s 0 0 (AS kd ad s.heap.size)) G kd ad 3 3 [(0, .ref (ad k0)), (1, .int x1), (2, .int x2)] [] M := by
  intro x1 x2 M hf H locs ls hI hl
  obtain ⟨hx, hb, hml, hr, hown, hts, hlk, hK, hap, hsx⟩ := id C
  unfold mX6_append_b3 at hf
  refine lv_iload_n hx hb (dc tbX6_append_k 2 rfl) rfl (lv_at hl 2 rfl) ?_
  refine lv_if_lt (tgt := 46) hx hb (dc tbX6_append_k 3 rfl) rfl (fun c1 => ?_) (fun c1 => ?_)
  · have hf := ite_t c1 hf
    cases hf
    exact g_vret hx hb hr hlk hI (dc tbX6_append_k 25 rfl)
  · have hf := ite_f c1 hf
    refine lv_aload_n hx hb (dc tbX6_append_k 4 rfl) rfl (lv_at hl 0 rfl) ?_
    refine gg6_1 hx hb hts hown hK hI hk0.1 q_t2_83 (dc tbX6_append_k 5 rfl) ?_
    refine lv_sipush (v := 600) hx hb (dc tbX6_append_k 6 rfl) sp_600 ?_
    refine lv_icmp_ge (tgt := 40) hx hb (dc tbX6_append_k 7 rfl) rfl (fun c2 => ?_) (fun c2 => ?_)
    · have hf := ite_t c2 hf
      exact tX6_append_b40 C hk0 hih3 x1 x2 M hf _ _ _ hI (lv_sub hl [0, 1, 2] rfl)
    · have hf := ite_f c2 hf
      refine lv_aload_n hx hb (dc tbX6_append_k 8 rfl) rfl (lv_at hl 0 rfl) ?_
      refine gg6_0 hx hb hts hown hK hI hk0.1 q_t2_82 (dc tbX6_append_k 9 rfl) ?_
      refine lv_aload_n hx hb (dc tbX6_append_k 10 rfl) rfl (lv_at hl 0 rfl) ?_
      refine gg6_1 hx hb hts hown hK hI hk0.1 q_t2_83 (dc tbX6_append_k 11 rfl) ?_
      refine lv_iload_n hx hb (dc tbX6_append_k 12 rfl) rfl (lv_at hl 1 rfl) ?_
      refine lv_iload_n hx hb (dc tbX6_append_k 13 rfl) rfl (lv_at hl 2 rfl) ?_
      refine lv_ishr hx hb (dc tbX6_append_k 14 rfl) ?_
      refine lv_i2b hx hb (dc tbX6_append_k 15 rfl) rfl ?_
      obtain ⟨h4, hf⟩ := chk_s hf
      obtain ⟨M6, e5, hf⟩ := bnd_s hf
      refine g_bast hx hb hK hap hI hk0.2.1 (okb_in h4) (dc tbX6_append_k 16 rfl) e5 (fun H locs hI => ?_)
      refine lv_aload_n hx hb (dc tbX6_append_k 17 rfl) rfl (lv_at hl 0 rfl) ?_
      refine lv_dup hx hb (dc tbX6_append_k 18 rfl) rfl ?_
      refine gg6_1 hx hb hts hown hK hI hk0.1 q_t2_83 (dc tbX6_append_k 19 rfl) ?_
      refine lv_iconst (v := 1) hx hb (dc tbX6_append_k 20 rfl) ic_1 ?_
      refine lv_iadd hx hb (dc tbX6_append_k 21 rfl) ?_
      obtain ⟨M7, e8, hf⟩ := bnd_s hf
      refine gp6_1 hx hb hts hown hK hap hI hk0.1 q_t2_83 (dc tbX6_append_k 22 rfl) e8 (fun H locs hI => ?_)
      exact tX6_append_b40 C hk0 hih3 x1 x2 M7 hf _ _ _ hI (lv_sub hl [0, 1, 2] rfl)
def mX6_append_l3 (k0 : Nat) : Nat → Int32 → Int32 → Mem → Option (Mem × Unit)
  | 0 => fun _ _ _ => none
  | n + 1 => mX6_append_b3 k0 (mX6_append_l3 k0 n)
theorem tX6_append_l3 {p : Program} {l : Launch} {e : Env} {s : State} {m : MethodId} {args : Array Value} {below : List Frame} {meth : Method} {c : Code} {G : GT} {kd : Nat → Nat × Nat} {ad : Nat → Nat} (C : Cx p s m args meth c cX6_append 3 none RX6 G kd ad) {k0 : Nat} (hk0 : kRoot kd k0) {MO : Mem} {vo : Unit}   : ∀ (fuel : Nat) (x1 : Int32) (x2 : Int32) (M : Mem), mX6_append_l3 k0 fuel x1 x2 M = some (MO, vo) → At p l e (rmO 0 0 0) s m args below meth c 0 0 (MQ below (Qg G kd ad s.heap.size MO none) args s 0 0 (AS kd ad s.heap.size)) G kd ad 3 3 [(0, .ref (ad k0)), (1, .int x1), (2, .int x2)] [] M := by
  intro fuel
  induction fuel with
  | zero => intro x1 x2 M hf; cases hf
  | succ n IH => exact tX6_append_b3 C hk0 IH
def mX6_append (k0 : Nat) (x1 : Int32) (M : Mem) : Option (Mem × Unit) := mX6_append_l3 k0 5000 x1 (24 : Int32) M
set_option maxHeartbeats 4000000 in
set_option maxRecDepth 100000 in
theorem tX6_append (l : Launch) {G : GT} {kd : Nat → Nat × Nat} {ad : Nat → Nat} {k0 : Nat} (hk0 : kRoot kd k0) {x1 : Int32} {M : Mem} {MO : Mem} {vo : Unit} (hf : mX6_append k0 x1 M = some (MO, vo)) (n : Nat) : Met l yX6_append (Cond.code yX6_append cX6_append 3 none :: WA) (rmO 0 0 0) (Pg G kd ad n [.ref (ad k0), .int x1] M) (Qg G kd ad n MO none) 0 0 (AS kd ad n) := by
  refine g_body (own := RX6) (by decide) rfl ?_ (Nat.le_of_ble_eq_true rfl)
  intro p e s m args below meth c C _ H locs ls hI hl
  obtain ⟨hx, hb, hml, hr, hown, hts, hlk, hK, hap, hsx⟩ := id C
  have hl : lv_has ls 3 [(0, .ref (ad k0)), (1, .int x1)] := hl
  unfold mX6_append at hf
  refine lv_bipush (v := 24) hx hb (dc tbX6_append_k 0 rfl) bp_24 ?_
  refine lv_istore_n (lv' := [(2, .int (24 : Int32)), (0, .ref (ad k0)), (1, .int x1)]) hx hb (dc tbX6_append_k 1 rfl) rfl hl (by decide) rfl (fun ls hl => ?_)
  exact tX6_append_l3 C hk0 5000 x1 (24 : Int32) M hf _ _ _ hI (lv_sub hl [1, 2, 0] rfl)
theorem cv_X6_append : cvF RX6 yX6_append cX6_append 3 none 1 := ⟨q_t2_116, q_s1_1, q_t1_1, q_t2_117, by decide +kernel⟩
def mX6_feed (k0 : Nat) (x1 : Int32) (x2 : Int32) (x3 : Int32) (x4 : Int32) (x5 : Int32) (M : Mem) : Option (Mem × Int32) := ite2 (((rd M k0 1) + (20 : Int32)) ≤ (600 : Int32)) (cal (mX6_append k0 x1 M) (fun M4 _ => cal (mX6_append k0 x2 M4) (fun M7 _ => cal (mX6_append k0 x3 M7) (fun M10 _ => cal (mX6_append k0 x4 M10) (fun M13 _ => cal (mX6_append k0 x5 M13) (fun M16 _ => some (M16, (rd M16 k0 1)))))))) (some (M, (-2 : Int32)))
set_option maxHeartbeats 4000000 in
set_option maxRecDepth 100000 in
theorem tX6_feed (l : Launch) {G : GT} {kd : Nat → Nat × Nat} {ad : Nat → Nat} {k0 : Nat} (hk0 : kRoot kd k0) {x1 : Int32} {x2 : Int32} {x3 : Int32} {x4 : Int32} {x5 : Int32} {M : Mem} {MO : Mem} {vo : Int32} (hf : mX6_feed k0 x1 x2 x3 x4 x5 M = some (MO, vo)) (n : Nat) : Met l yX6_feed (Cond.code yX6_feed cX6_feed 6 (some .int) :: WA) (rmO 1 0 0) (Pg G kd ad n [.ref (ad k0), .int x1, .int x2, .int x3, .int x4, .int x5] M) (Qg G kd ad n MO (some (.int vo))) 0 0 (AS kd ad n) := by
  refine g_body (own := RX6) (by decide) rfl ?_ (Nat.le_of_ble_eq_true rfl)
  intro p e s m args below meth c C _ H locs ls hI hl
  obtain ⟨hx, hb, hml, hr, hown, hts, hlk, hK, hap, hsx⟩ := id C
  have hl : lv_has ls 6 [(0, .ref (ad k0)), (1, .int x1), (2, .int x2), (3, .int x3), (4, .int x4), (5, .int x5)] := hl
  unfold mX6_feed at hf
  refine lv_aload_n hx hb (dc tbX6_feed_k 0 rfl) rfl (lv_at hl 0 rfl) ?_
  refine gg6_1 hx hb hts hown hK hI hk0.1 q_t2_83 (dc tbX6_feed_k 1 rfl) ?_
  refine lv_bipush (v := 20) hx hb (dc tbX6_feed_k 2 rfl) bp_20 ?_
  refine lv_iadd hx hb (dc tbX6_feed_k 3 rfl) ?_
  refine lv_sipush (v := 600) hx hb (dc tbX6_feed_k 4 rfl) sp_600 ?_
  refine lv_icmp_le (tgt := 16) hx hb (dc tbX6_feed_k 5 rfl) rfl (fun c1 => ?_) (fun c1 => ?_)
  · have hf := ite_t c1 hf
    refine lv_aload_n hx hb (dc tbX6_feed_k 8 rfl) rfl (lv_at hl 0 rfl) ?_
    refine lv_iload_n hx hb (dc tbX6_feed_k 9 rfl) rfl (lv_at hl 1 rfl) ?_
    obtain ⟨M4, r3, q2, hf⟩ := cal_s hf
    refine g_callVv hx hb hml hown hts hK hap hsx hI (tX6_append l hk0 q2 H.size) cv_X6_append q_t2_114 rfl rfl ⟨Nat.le_of_ble_eq_true rfl, Nat.le_of_ble_eq_true rfl⟩ hk0.1 (by simp) rfl rfl rfl hl.1 rfl (Nat.le_of_ble_eq_true rfl) (dc tbX6_feed_k 10 rfl) ⟨Nat.le_of_ble_eq_true rfl, Nat.le_of_ble_eq_true rfl⟩ (fun H locs hI => ?_)
    refine lv_aload_n hx hb (dc tbX6_feed_k 11 rfl) rfl (lv_at hl 0 rfl) ?_
    refine lv_iload_n hx hb (dc tbX6_feed_k 12 rfl) rfl (lv_at hl 2 rfl) ?_
    obtain ⟨M7, r6, q5, hf⟩ := cal_s hf
    refine g_callVv hx hb hml hown hts hK hap hsx hI (tX6_append l hk0 q5 H.size) cv_X6_append q_t2_114 rfl rfl ⟨Nat.le_of_ble_eq_true rfl, Nat.le_of_ble_eq_true rfl⟩ hk0.1 (by simp) rfl rfl rfl hl.1 rfl (Nat.le_of_ble_eq_true rfl) (dc tbX6_feed_k 13 rfl) ⟨Nat.le_of_ble_eq_true rfl, Nat.le_of_ble_eq_true rfl⟩ (fun H locs hI => ?_)
    refine lv_aload_n hx hb (dc tbX6_feed_k 14 rfl) rfl (lv_at hl 0 rfl) ?_
    refine lv_iload_n hx hb (dc tbX6_feed_k 15 rfl) rfl (lv_at hl 3 rfl) ?_
    obtain ⟨M10, r9, q8, hf⟩ := cal_s hf
    refine g_callVv hx hb hml hown hts hK hap hsx hI (tX6_append l hk0 q8 H.size) cv_X6_append q_t2_114 rfl rfl ⟨Nat.le_of_ble_eq_true rfl, Nat.le_of_ble_eq_true rfl⟩ hk0.1 (by simp) rfl rfl rfl hl.1 rfl (Nat.le_of_ble_eq_true rfl) (dc tbX6_feed_k 16 rfl) ⟨Nat.le_of_ble_eq_true rfl, Nat.le_of_ble_eq_true rfl⟩ (fun H locs hI => ?_)
    refine lv_aload_n hx hb (dc tbX6_feed_k 17 rfl) rfl (lv_at hl 0 rfl) ?_
    refine lv_iload hx hb (dc tbX6_feed_k 18 rfl) (lv_at hl 4 rfl) ?_
    obtain ⟨M13, r12, q11, hf⟩ := cal_s hf
    refine g_callVv hx hb hml hown hts hK hap hsx hI (tX6_append l hk0 q11 H.size) cv_X6_append q_t2_114 rfl rfl ⟨Nat.le_of_ble_eq_true rfl, Nat.le_of_ble_eq_true rfl⟩ hk0.1 (by simp) rfl rfl rfl hl.1 rfl (Nat.le_of_ble_eq_true rfl) (dc tbX6_feed_k 19 rfl) ⟨Nat.le_of_ble_eq_true rfl, Nat.le_of_ble_eq_true rfl⟩ (fun H locs hI => ?_)
    refine lv_aload_n hx hb (dc tbX6_feed_k 20 rfl) rfl (lv_at hl 0 rfl) ?_
    refine lv_iload hx hb (dc tbX6_feed_k 21 rfl) (lv_at hl 5 rfl) ?_
    obtain ⟨M16, r15, q14, hf⟩ := cal_s hf
    refine g_callVv hx hb hml hown hts hK hap hsx hI (tX6_append l hk0 q14 H.size) cv_X6_append q_t2_114 rfl rfl ⟨Nat.le_of_ble_eq_true rfl, Nat.le_of_ble_eq_true rfl⟩ hk0.1 (by simp) rfl rfl rfl hl.1 rfl (Nat.le_of_ble_eq_true rfl) (dc tbX6_feed_k 22 rfl) ⟨Nat.le_of_ble_eq_true rfl, Nat.le_of_ble_eq_true rfl⟩ (fun H locs hI => ?_)
    refine lv_aload_n hx hb (dc tbX6_feed_k 23 rfl) rfl (lv_at hl 0 rfl) ?_
    refine gg6_1 hx hb hts hown hK hI hk0.1 q_t2_83 (dc tbX6_feed_k 24 rfl) ?_
    cases hf
    exact g_iret hx hb hr hlk hI (dc tbX6_feed_k 25 rfl)
  · have hf := ite_f c1 hf
    refine lv_bipush (v := -2) hx hb (dc tbX6_feed_k 6 rfl) bp_m2 ?_
    cases hf
    exact g_iret hx hb hr hlk hI (dc tbX6_feed_k 7 rfl)
theorem cv_X6_feed : cvF RX6 yX6_feed cX6_feed 6 (some .int) 5 := ⟨q_t2_111, q_t2_112, q_t1_1, q_t2_113, by decide +kernel⟩
def mX6_load_b12 (k0 : Nat) (M : Mem) : Option (Mem × (Int32 ⊕ Nat)) := some (M, Sum.inr 0)
set_option maxHeartbeats 4000000 in
set_option maxRecDepth 100000 in
theorem tX6_load_b12 {p : Program} {l : Launch} {e : Env} {s : State} {m : MethodId} {args : Array Value} {below : List Frame} {meth : Method} {c : Code} {G : GT} {kd : Nat → Nat × Nat} {ad : Nat → Nat} (C : Cx p s m args meth c cX6_load 2 (some .int) RX6 G kd ad) (hst : l.stackTraces = false) (htb : ∀ x ∈ c.exceptionTable.toList, False) {k0 : Nat} (hk0 : kRoot kd k0) {MO : Mem} {vo : Int32 ⊕ Nat}   : ∀  (M : Mem), mX6_load_b12 k0 M = some (MO, vo) → At p l e (rmO 8 1 6) s m args below meth c 0 0 (XQ G kd ad below args s MO (zi vo) 1 6) G kd ad 2 12 [] [] M := by
  intro M hf H locs ls hI hl
  obtain ⟨hx, hb, hml, hr, hown, hts, hlk, hK, hap, hsx⟩ := id C
  unfold mX6_load_b12 at hf
  cases hf
  exact x_throw (text := "length is not 0 to the number of bytes in the buffer") (e9 := 0) false hx hb hst hml hown hts hlk hsx htb (by decide +kernel) fit_n q_t5_106 q_t1_15 (by decide +kernel) at_iae nb_iae gd_iae_66 rfl hI hl.1 (dc tbX6_load_k 6 rfl) (dc tbX6_load_k 7 rfl) (dc tbX6_load_k 8 rfl) (dc tbX6_load_k 9 rfl) (dc tbX6_load_k 10 rfl) (Nat.le_of_ble_eq_true rfl) (Nat.le_of_ble_eq_true rfl) ⟨Nat.le_of_ble_eq_true rfl, Nat.le_of_ble_eq_true rfl⟩ (Nat.le_of_ble_eq_true rfl) (Nat.le_of_ble_eq_true rfl)
def mX6_load (k0 : Nat) (x1 : Int32) (M : Mem) : Option (Mem × (Int32 ⊕ Nat)) := ite2 (x1 < 0) (mX6_load_b12 k0 M) (ite2 (x1 ≤ (rd M k0 1)) (bnd (wr M k0 1 (0 : Int32)) (fun M3 => cal (mX4_readText 2 1 13 x1 M3) (fun M7 r6 => ite2 (r6 = 0) (some (M7, Sum.inl (-3 : Int32))) (cal (mX1_copyFrom 5 13 M7) (fun M11 _ => cal (mX0_forgetAll 21 M11) (fun M14 _ => cap (mX1_bendCount 5 M14) (fun r16 => some (M14, Sum.inl r16)))))))) (mX6_load_b12 k0 M))
set_option maxHeartbeats 4000000 in
set_option maxRecDepth 100000 in
theorem tX6_load (l : Launch) (hst : l.stackTraces = false) {G : GT} {kd : Nat → Nat × Nat} {ad : Nat → Nat} {k0 : Nat} (hk0 : kRoot kd k0) {x1 : Int32} {M : Mem} {MO : Mem} {vo : Int32 ⊕ Nat} (hf : mX6_load k0 x1 M = some (MO, vo)) (n : Nat) : vx_Met l yX6_load (Cond.code yX6_load cX6_load 2 (some .int) :: WA) (rmO 8 1 6) (Pg G kd ad n [.ref (ad k0), .int x1] M) (Qx G kd ad n MO (zi vo)) (Xx G kd ad n MO (zi vo)) 1 6 (AS kd ad n) := by
  refine g_bodyX (own := RX6) (by decide) rfl ?_ (Nat.le_of_ble_eq_true rfl)
  intro p e s m args below meth c C htb _ H locs ls hI hl
  obtain ⟨hx, hb, hml, hr, hown, hts, hlk, hK, hap, hsx⟩ := id C
  have hl : lv_has ls 2 [(0, .ref (ad k0)), (1, .int x1)] := hl
  unfold mX6_load at hf
  refine lv_iload_n hx hb (dc tbX6_load_k 0 rfl) rfl (lv_at hl 1 rfl) ?_
  refine lv_if_lt (tgt := 12) hx hb (dc tbX6_load_k 1 rfl) rfl (fun c1 => ?_) (fun c1 => ?_)
  · have hf := ite_t c1 hf
    exact tX6_load_b12 C hst htb hk0 M hf _ _ _ hI (lv_sub hl [] rfl)
  · have hf := ite_f c1 hf
    refine lv_iload_n hx hb (dc tbX6_load_k 2 rfl) rfl (lv_at hl 1 rfl) ?_
    refine lv_aload_n hx hb (dc tbX6_load_k 3 rfl) rfl (lv_at hl 0 rfl) ?_
    refine gg6_1 hx hb hts hown hK hI hk0.1 q_t2_83 (dc tbX6_load_k 4 rfl) ?_
    refine lv_icmp_le (tgt := 22) hx hb (dc tbX6_load_k 5 rfl) rfl (fun c2 => ?_) (fun c2 => ?_)
    · have hf := ite_t c2 hf
      refine lv_aload_n hx hb (dc tbX6_load_k 11 rfl) rfl (lv_at hl 0 rfl) ?_
      refine lv_iconst (v := 0) hx hb (dc tbX6_load_k 12 rfl) ic_0 ?_
      obtain ⟨M3, e4, hf⟩ := bnd_s hf
      refine gp6_1 hx hb hts hown hK hap hI hk0.1 q_t2_83 (dc tbX6_load_k 13 rfl) e4 (fun H locs hI => ?_)
      refine lv_aload_n hx hb (dc tbX6_load_k 14 rfl) rfl (lv_at hl 0 rfl) ?_
      refine gg6_2 hx hb hts hown hK hI hk0.1 q_t2_84 (dc tbX6_load_k 15 rfl) ?_
      refine lv_aload_n hx hb (dc tbX6_load_k 16 rfl) rfl (lv_at hl 0 rfl) ?_
      refine gg6_0 hx hb hts hown hK hI hk0.1 q_t2_82 (dc tbX6_load_k 17 rfl) ?_
      refine lv_iload_n hx hb (dc tbX6_load_k 18 rfl) rfl (lv_at hl 1 rfl) ?_
      refine lv_aload_n hx hb (dc tbX6_load_k 19 rfl) rfl (lv_at hl 0 rfl) ?_
      refine gg6_4 hx hb hts hown hK hI hk0.1 q_t2_86 (dc tbX6_load_k 20 rfl) ?_
      obtain ⟨M7, r6, q5, hf⟩ := cal_s hf
      refine g_callVi hx hb hml hown hts hK hap hsx hI (tX4_readText l hk0.2.2.1 hk0.2.1 hk0.2.2.2.2.1 q5 H.size) cv_X4_readText q_t5_109 rfl rfl ⟨Nat.le_of_ble_eq_true rfl, Nat.le_of_ble_eq_true rfl⟩ hk0.2.2.1.1 (by simp) rfl rfl rfl hl.1 rfl (Nat.le_of_ble_eq_true rfl) (dc tbX6_load_k 21 rfl) ⟨Nat.le_of_ble_eq_true rfl, Nat.le_of_ble_eq_true rfl⟩ (fun H locs hI => ?_)
      refine lv_if_ne (tgt := 49) hx hb (dc tbX6_load_k 22 rfl) rfl (fun c8 => ?_) (fun c8 => ?_)
      · have hf := ite_f c8 hf
        refine lv_aload_n hx hb (dc tbX6_load_k 25 rfl) rfl (lv_at hl 0 rfl) ?_
        refine gg6_3 hx hb hts hown hK hI hk0.1 q_t2_85 (dc tbX6_load_k 26 rfl) ?_
        refine lv_aload_n hx hb (dc tbX6_load_k 27 rfl) rfl (lv_at hl 0 rfl) ?_
        refine gg6_4 hx hb hts hown hK hI hk0.1 q_t2_86 (dc tbX6_load_k 28 rfl) ?_
        obtain ⟨M11, r10, q9, hf⟩ := cal_s hf
        refine g_callVv hx hb hml hown hts hK hap hsx hI (tX1_copyFrom l hk0.2.2.2.1 hk0.2.2.2.2.1 q9 H.size) cv_X1_copyFrom q_t3_182 rfl rfl ⟨Nat.le_of_ble_eq_true rfl, Nat.le_of_ble_eq_true rfl⟩ hk0.2.2.2.1.1 (by simp) rfl rfl rfl hl.1 rfl (Nat.le_of_ble_eq_true rfl) (dc tbX6_load_k 29 rfl) ⟨Nat.le_of_ble_eq_true rfl, Nat.le_of_ble_eq_true rfl⟩ (fun H locs hI => ?_)
        refine lv_aload_n hx hb (dc tbX6_load_k 30 rfl) rfl (lv_at hl 0 rfl) ?_
        refine gg6_5 hx hb hts hown hK hI hk0.1 q_t2_87 (dc tbX6_load_k 31 rfl) ?_
        obtain ⟨M14, r13, q12, hf⟩ := cal_s hf
        refine g_callVv hx hb hml hown hts hK hap hsx hI (tX0_forgetAll l hk0.2.2.2.2.2.1 q12 H.size) cv_X0_forgetAll q_t6_3 rfl rfl ⟨Nat.le_of_ble_eq_true rfl, Nat.le_of_ble_eq_true rfl⟩ hk0.2.2.2.2.2.1.1 (by simp) rfl rfl rfl hl.1 rfl (Nat.le_of_ble_eq_true rfl) (dc tbX6_load_k 32 rfl) ⟨Nat.le_of_ble_eq_true rfl, Nat.le_of_ble_eq_true rfl⟩ (fun H locs hI => ?_)
        refine lv_aload_n hx hb (dc tbX6_load_k 33 rfl) rfl (lv_at hl 0 rfl) ?_
        refine gg6_3 hx hb hts hown hK hI hk0.1 q_t2_85 (dc tbX6_load_k 34 rfl) ?_
        obtain ⟨r16, q15, hf⟩ := cap_s hf
        refine g_callVi hx hb hml hown hts hK hap hsx hI (tX1_bendCount l hk0.2.2.2.1 q15 H.size) cv_X1_bendCount q_t2_130 rfl rfl ⟨Nat.le_of_ble_eq_true rfl, Nat.le_of_ble_eq_true rfl⟩ hk0.2.2.2.1.1 (by simp) rfl rfl rfl hl.1 rfl (Nat.le_of_ble_eq_true rfl) (dc tbX6_load_k 35 rfl) ⟨Nat.le_of_ble_eq_true rfl, Nat.le_of_ble_eq_true rfl⟩ (fun H locs hI => ?_)
        cases hf
        refine W.widen (k := 1) (n := 6) (Nat.le_of_ble_eq_true rfl) (Nat.le_of_ble_eq_true rfl) ?_
        exact x_ret (g_iret hx hb hr hlk hI (dc tbX6_load_k 36 rfl))
      · have hf := ite_t c8 hf
        refine lv_bipush (v := -3) hx hb (dc tbX6_load_k 23 rfl) bp_m3 ?_
        cases hf
        refine W.widen (k := 1) (n := 6) (Nat.le_of_ble_eq_true rfl) (Nat.le_of_ble_eq_true rfl) ?_
        exact x_ret (g_iret hx hb hr hlk hI (dc tbX6_load_k 24 rfl))
    · have hf := ite_f c2 hf
      exact tX6_load_b12 C hst htb hk0 M hf _ _ _ hI (lv_sub hl [] rfl)
theorem cv_X6_load : cvF RX6 yX6_load cX6_load 2 (some .int) 1 := ⟨q_t5_103, q_t5_104, q_t1_1, q_t5_105, by decide +kernel⟩
def mX6_errorKind (k0 : Nat) (M : Mem) : Option Int32 := some (rd M 2 0)
set_option maxHeartbeats 4000000 in
set_option maxRecDepth 100000 in
theorem tX6_errorKind (l : Launch) {G : GT} {kd : Nat → Nat × Nat} {ad : Nat → Nat} {k0 : Nat} (hk0 : kRoot kd k0) {M : Mem} {vo : Int32} (hf : mX6_errorKind k0 M = some vo) (n : Nat) : Met l yX6_errorKind (Cond.code yX6_errorKind cX6_errorKind 1 (some .int) :: WA) (rmO 0 0 0) (Pg G kd ad n [.ref (ad k0)] M) (Qg G kd ad n M (some (.int vo))) 0 0 (AS kd ad n) := by
  refine g_body (own := RX6) (by decide) rfl ?_ (Nat.le_of_ble_eq_true rfl)
  intro p e s m args below meth c C _ H locs ls hI hl
  obtain ⟨hx, hb, hml, hr, hown, hts, hlk, hK, hap, hsx⟩ := id C
  have hl : lv_has ls 1 [(0, .ref (ad k0))] := hl
  unfold mX6_errorKind at hf
  refine lv_aload_n hx hb (dc tbX6_errorKind_k 0 rfl) rfl (lv_at hl 0 rfl) ?_
  refine gg6_2 hx hb hts hown hK hI hk0.1 q_t2_84 (dc tbX6_errorKind_k 1 rfl) ?_
  refine gg4_0 hx hb hts hown hK hI hk0.2.2.1.1 q_t1_44 (dc tbX6_errorKind_k 2 rfl) ?_
  cases hf
  exact g_iret hx hb hr hlk hI (dc tbX6_errorKind_k 3 rfl)
theorem cv_X6_errorKind : cvF RX6 yX6_errorKind cX6_errorKind 1 (some .int) 0 := ⟨q_t2_119, q_t2_120, q_t1_1, q_t2_121, by decide +kernel⟩
def mX6_errorPosition (k0 : Nat) (M : Mem) : Option Int32 := some (rd M 2 1)
set_option maxHeartbeats 4000000 in
set_option maxRecDepth 100000 in
theorem tX6_errorPosition (l : Launch) {G : GT} {kd : Nat → Nat × Nat} {ad : Nat → Nat} {k0 : Nat} (hk0 : kRoot kd k0) {M : Mem} {vo : Int32} (hf : mX6_errorPosition k0 M = some vo) (n : Nat) : Met l yX6_errorPosition (Cond.code yX6_errorPosition cX6_errorPosition 1 (some .int) :: WA) (rmO 0 0 0) (Pg G kd ad n [.ref (ad k0)] M) (Qg G kd ad n M (some (.int vo))) 0 0 (AS kd ad n) := by
  refine g_body (own := RX6) (by decide) rfl ?_ (Nat.le_of_ble_eq_true rfl)
  intro p e s m args below meth c C _ H locs ls hI hl
  obtain ⟨hx, hb, hml, hr, hown, hts, hlk, hK, hap, hsx⟩ := id C
  have hl : lv_has ls 1 [(0, .ref (ad k0))] := hl
  unfold mX6_errorPosition at hf
  refine lv_aload_n hx hb (dc tbX6_errorPosition_k 0 rfl) rfl (lv_at hl 0 rfl) ?_
  refine gg6_2 hx hb hts hown hK hI hk0.1 q_t2_84 (dc tbX6_errorPosition_k 1 rfl) ?_
  refine gg4_1 hx hb hts hown hK hI hk0.2.2.1.1 q_t1_46 (dc tbX6_errorPosition_k 2 rfl) ?_
  cases hf
  exact g_iret hx hb hr hlk hI (dc tbX6_errorPosition_k 3 rfl)
theorem cv_X6_errorPosition : cvF RX6 yX6_errorPosition cX6_errorPosition 1 (some .int) 0 := ⟨q_t2_123, q_t2_124, q_t1_1, q_t2_125, by decide +kernel⟩
def mX6_bends (k0 : Nat) (M : Mem) : Option Int32 := cap (mX1_bendCount 5 M) (fun r2 => some r2)
set_option maxHeartbeats 4000000 in
set_option maxRecDepth 100000 in
theorem tX6_bends (l : Launch) {G : GT} {kd : Nat → Nat × Nat} {ad : Nat → Nat} {k0 : Nat} (hk0 : kRoot kd k0) {M : Mem} {vo : Int32} (hf : mX6_bends k0 M = some vo) (n : Nat) : Met l yX6_bends (Cond.code yX6_bends cX6_bends 1 (some .int) :: WA) (rmO 1 0 0) (Pg G kd ad n [.ref (ad k0)] M) (Qg G kd ad n M (some (.int vo))) 0 0 (AS kd ad n) := by
  refine g_body (own := RX6) (by decide) rfl ?_ (Nat.le_of_ble_eq_true rfl)
  intro p e s m args below meth c C _ H locs ls hI hl
  obtain ⟨hx, hb, hml, hr, hown, hts, hlk, hK, hap, hsx⟩ := id C
  have hl : lv_has ls 1 [(0, .ref (ad k0))] := hl
  unfold mX6_bends at hf
  refine lv_aload_n hx hb (dc tbX6_bends_k 0 rfl) rfl (lv_at hl 0 rfl) ?_
  refine gg6_3 hx hb hts hown hK hI hk0.1 q_t2_85 (dc tbX6_bends_k 1 rfl) ?_
  obtain ⟨r2, q1, hf⟩ := cap_s hf
  refine g_callVi hx hb hml hown hts hK hap hsx hI (tX1_bendCount l hk0.2.2.2.1 q1 H.size) cv_X1_bendCount q_t2_130 rfl rfl ⟨Nat.le_of_ble_eq_true rfl, Nat.le_of_ble_eq_true rfl⟩ hk0.2.2.2.1.1 (by simp) rfl rfl rfl hl.1 rfl (Nat.le_of_ble_eq_true rfl) (dc tbX6_bends_k 2 rfl) ⟨Nat.le_of_ble_eq_true rfl, Nat.le_of_ble_eq_true rfl⟩ (fun H locs hI => ?_)
  cases hf
  exact g_iret hx hb hr hlk hI (dc tbX6_bends_k 3 rfl)
theorem cv_X6_bends : cvF RX6 yX6_bends cX6_bends 1 (some .int) 0 := ⟨q_t2_127, q_t2_128, q_t1_1, q_t2_129, by decide +kernel⟩
def mX6_legs (k0 : Nat) (M : Mem) : Option Int32 := some (rd M 5 0)
set_option maxHeartbeats 4000000 in
set_option maxRecDepth 100000 in
theorem tX6_legs (l : Launch) {G : GT} {kd : Nat → Nat × Nat} {ad : Nat → Nat} {k0 : Nat} (hk0 : kRoot kd k0) {M : Mem} {vo : Int32} (hf : mX6_legs k0 M = some vo) (n : Nat) : Met l yX6_legs (Cond.code yX6_legs cX6_legs 1 (some .int) :: WA) (rmO 0 0 0) (Pg G kd ad n [.ref (ad k0)] M) (Qg G kd ad n M (some (.int vo))) 0 0 (AS kd ad n) := by
  refine g_body (own := RX6) (by decide) rfl ?_ (Nat.le_of_ble_eq_true rfl)
  intro p e s m args below meth c C _ H locs ls hI hl
  obtain ⟨hx, hb, hml, hr, hown, hts, hlk, hK, hap, hsx⟩ := id C
  have hl : lv_has ls 1 [(0, .ref (ad k0))] := hl
  unfold mX6_legs at hf
  refine lv_aload_n hx hb (dc tbX6_legs_k 0 rfl) rfl (lv_at hl 0 rfl) ?_
  refine gg6_3 hx hb hts hown hK hI hk0.1 q_t2_85 (dc tbX6_legs_k 1 rfl) ?_
  refine gg1_0 hx hb hts hown hK hI hk0.2.2.2.1.1 q_t1_104 (dc tbX6_legs_k 2 rfl) ?_
  cases hf
  exact g_iret hx hb hr hlk hI (dc tbX6_legs_k 3 rfl)
theorem cv_X6_legs : cvF RX6 yX6_legs cX6_legs 1 (some .int) 0 := ⟨q_t2_135, q_t2_136, q_t1_1, q_t2_137, by decide +kernel⟩
def mX6_requireLeg_b21 (k0 : Nat) (M : Mem) : Option (Mem × (Unit ⊕ Nat)) := some (M, Sum.inr 1)
set_option maxHeartbeats 4000000 in
set_option maxRecDepth 100000 in
theorem tX6_requireLeg_b21 {p : Program} {l : Launch} {e : Env} {s : State} {m : MethodId} {args : Array Value} {below : List Frame} {meth : Method} {c : Code} {G : GT} {kd : Nat → Nat × Nat} {ad : Nat → Nat} (C : Cx p s m args meth c cX6_requireLeg 2 none RX6 G kd ad) (hst : l.stackTraces = false) (htb : ∀ x ∈ c.exceptionTable.toList, False) {k0 : Nat} (hk0 : kRoot kd k0) {MO : Mem} {vo : Unit ⊕ Nat}   : ∀  (M : Mem), mX6_requireLeg_b21 k0 M = some (MO, vo) → At p l e (rmO 0 1 6) s m args below meth c 0 0 (XQ G kd ad below args s MO (zv vo) 1 6) G kd ad 2 21 [] [] M := by
  intro M hf H locs ls hI hl
  obtain ⟨hx, hb, hml, hr, hown, hts, hlk, hK, hap, hsx⟩ := id C
  unfold mX6_requireLeg_b21 at hf
  cases hf
  exact x_throw (text := "there is no such leg") (e9 := 1) true hx hb hst hml hown hts hlk hsx htb (by decide +kernel) fit_n q_t6_19 q_t1_21 (by decide +kernel) at_ioo nb_ioo gd_ioo_176 rfl hI hl.1 (dc tbX6_requireLeg_k 10 rfl) (dc tbX6_requireLeg_k 11 rfl) (dc tbX6_requireLeg_k 12 rfl) (dc tbX6_requireLeg_k 13 rfl) (dc tbX6_requireLeg_k 14 rfl) (Nat.le_of_ble_eq_true rfl) (Nat.le_of_ble_eq_true rfl) ⟨Nat.le_of_ble_eq_true rfl, Nat.le_of_ble_eq_true rfl⟩ (Nat.le_of_ble_eq_true rfl) (Nat.le_of_ble_eq_true rfl)
def mX6_requireLeg (k0 : Nat) (x1 : Int32) (M : Mem) : Option (Mem × (Unit ⊕ Nat)) := ite2 (x1 < 0) (mX6_requireLeg_b21 k0 M) (ite2 ((rd M 5 0) ≤ x1) (mX6_requireLeg_b21 k0 M) (ite2 (x1 < (9 : Int32)) (some (M, Sum.inl ())) (mX6_requireLeg_b21 k0 M)))
set_option maxHeartbeats 4000000 in
set_option maxRecDepth 100000 in
theorem tX6_requireLeg (l : Launch) (hst : l.stackTraces = false) {G : GT} {kd : Nat → Nat × Nat} {ad : Nat → Nat} {k0 : Nat} (hk0 : kRoot kd k0) {x1 : Int32} {M : Mem} {MO : Mem} {vo : Unit ⊕ Nat} (hf : mX6_requireLeg k0 x1 M = some (MO, vo)) (n : Nat) : vx_Met l yX6_requireLeg (Cond.code yX6_requireLeg cX6_requireLeg 2 none :: WA) (rmO 0 1 6) (Pg G kd ad n [.ref (ad k0), .int x1] M) (Qx G kd ad n MO (zv vo)) (Xx G kd ad n MO (zv vo)) 1 6 (AS kd ad n) := by
  refine g_bodyX (own := RX6) (by decide) rfl ?_ (Nat.le_of_ble_eq_true rfl)
  intro p e s m args below meth c C htb _ H locs ls hI hl
  obtain ⟨hx, hb, hml, hr, hown, hts, hlk, hK, hap, hsx⟩ := id C
  have hl : lv_has ls 2 [(0, .ref (ad k0)), (1, .int x1)] := hl
  unfold mX6_requireLeg at hf
  refine lv_iload_n hx hb (dc tbX6_requireLeg_k 0 rfl) rfl (lv_at hl 1 rfl) ?_
  refine lv_if_lt (tgt := 21) hx hb (dc tbX6_requireLeg_k 1 rfl) rfl (fun c1 => ?_) (fun c1 => ?_)
  · have hf := ite_t c1 hf
    exact tX6_requireLeg_b21 C hst htb hk0 M hf _ _ _ hI (lv_sub hl [] rfl)
  · have hf := ite_f c1 hf
    refine lv_iload_n hx hb (dc tbX6_requireLeg_k 2 rfl) rfl (lv_at hl 1 rfl) ?_
    refine lv_aload_n hx hb (dc tbX6_requireLeg_k 3 rfl) rfl (lv_at hl 0 rfl) ?_
    refine gg6_3 hx hb hts hown hK hI hk0.1 q_t2_85 (dc tbX6_requireLeg_k 4 rfl) ?_
    refine gg1_0 hx hb hts hown hK hI hk0.2.2.2.1.1 q_t1_104 (dc tbX6_requireLeg_k 5 rfl) ?_
    refine lv_icmp_ge (tgt := 21) hx hb (dc tbX6_requireLeg_k 6 rfl) rfl (fun c2 => ?_) (fun c2 => ?_)
    · have hf := ite_t c2 hf
      exact tX6_requireLeg_b21 C hst htb hk0 M hf _ _ _ hI (lv_sub hl [] rfl)
    · have hf := ite_f c2 hf
      refine lv_iload_n hx hb (dc tbX6_requireLeg_k 7 rfl) rfl (lv_at hl 1 rfl) ?_
      refine lv_bipush (v := 9) hx hb (dc tbX6_requireLeg_k 8 rfl) bp_9 ?_
      refine lv_icmp_lt (tgt := 32) hx hb (dc tbX6_requireLeg_k 9 rfl) rfl (fun c3 => ?_) (fun c3 => ?_)
      · have hf := ite_t c3 hf
        cases hf
        refine W.widen (k := 1) (n := 6) (Nat.le_of_ble_eq_true rfl) (Nat.le_of_ble_eq_true rfl) ?_
        exact x_ret (g_vret hx hb hr hlk hI (dc tbX6_requireLeg_k 15 rfl))
      · have hf := ite_f c3 hf
        exact tX6_requireLeg_b21 C hst htb hk0 M hf _ _ _ hI (lv_sub hl [] rfl)
theorem cv_X6_requireLeg : cvF RX6 yX6_requireLeg cX6_requireLeg 2 none 1 := ⟨q_t6_17, q_s2_11, q_t1_1, q_t6_18, by decide +kernel⟩
def mX6_leg (k0 : Nat) (x1 : Int32) (M : Mem) : Option (Mem × (Int32 ⊕ Nat)) := calx (mX6_requireLeg k0 x1 M) (fun M3 _ => chk (okb x1 9) (some (M3, Sum.inl (rd M3 (5 + 1) (x1).toNatClampNeg))))
set_option maxHeartbeats 4000000 in
set_option maxRecDepth 100000 in
theorem tX6_leg (l : Launch) (hst : l.stackTraces = false) {G : GT} {kd : Nat → Nat × Nat} {ad : Nat → Nat} {k0 : Nat} (hk0 : kRoot kd k0) {x1 : Int32} {M : Mem} {MO : Mem} {vo : Int32 ⊕ Nat} (hf : mX6_leg k0 x1 M = some (MO, vo)) (n : Nat) : vx_Met l yX6_leg (Cond.code yX6_leg cX6_leg 2 (some .int) :: WA) (rmO 1 1 6) (Pg G kd ad n [.ref (ad k0), .int x1] M) (Qx G kd ad n MO (zi vo)) (Xx G kd ad n MO (zi vo)) 1 6 (AS kd ad n) := by
  refine g_bodyX (own := RX6) (by decide) rfl ?_ (Nat.le_of_ble_eq_true rfl)
  intro p e s m args below meth c C htb _ H locs ls hI hl
  obtain ⟨hx, hb, hml, hr, hown, hts, hlk, hK, hap, hsx⟩ := id C
  have hl : lv_has ls 2 [(0, .ref (ad k0)), (1, .int x1)] := hl
  unfold mX6_leg at hf
  refine lv_aload_n hx hb (dc tbX6_leg_k 0 rfl) rfl (lv_at hl 0 rfl) ?_
  refine lv_iload_n hx hb (dc tbX6_leg_k 1 rfl) rfl (lv_at hl 1 rfl) ?_
  rcases calx_s hf with ⟨M3, r2, q1, hf⟩ | ⟨e4, q1, rfl⟩
  · refine x_callRv (g_runXV hx hb hml hown hts hK hap hsx hI (tX6_requireLeg l hst hk0 q1 H.size) cv_X6_requireLeg q_t6_15 rfl rfl ⟨Nat.le_of_ble_eq_true rfl, Nat.le_of_ble_eq_true rfl⟩ hk0.1 (by simp) rfl rfl rfl hl.1 rfl (Nat.le_of_ble_eq_true rfl) (dc tbX6_leg_k 2 rfl) ⟨Nat.le_of_ble_eq_true rfl, Nat.le_of_ble_eq_true rfl⟩) hI (fun H locs hI => ?_)
    refine lv_aload_n hx hb (dc tbX6_leg_k 3 rfl) rfl (lv_at hl 0 rfl) ?_
    refine gg6_3 hx hb hts hown hK hI hk0.1 q_t2_85 (dc tbX6_leg_k 4 rfl) ?_
    refine gg1_1 hx hb hts hown hK hI hk0.2.2.2.1.1 q_t1_107 (dc tbX6_leg_k 5 rfl) ?_
    refine lv_iload_n hx hb (dc tbX6_leg_k 6 rfl) rfl (lv_at hl 1 rfl) ?_
    obtain ⟨h5, hf⟩ := chk_s hf
    refine g_iald hx hb hK hI hk0.2.2.2.1.2.1 (okb_in h5) (dc tbX6_leg_k 7 rfl) ?_
    cases hf
    exact x_ret (g_iret hx hb hr hlk hI (dc tbX6_leg_k 8 rfl))
  · exact x_callT (g_runXV hx hb hml hown hts hK hap hsx hI (tX6_requireLeg l hst hk0 q1 H.size) cv_X6_requireLeg q_t6_15 rfl rfl ⟨Nat.le_of_ble_eq_true rfl, Nat.le_of_ble_eq_true rfl⟩ hk0.1 (by simp) rfl rfl rfl hl.1 rfl (Nat.le_of_ble_eq_true rfl) (dc tbX6_leg_k 2 rfl) ⟨Nat.le_of_ble_eq_true rfl, Nat.le_of_ble_eq_true rfl⟩) hI htb hlk (Nat.le_of_ble_eq_true rfl) (Nat.le_of_ble_eq_true rfl)
theorem cv_X6_leg : cvF RX6 yX6_leg cX6_leg 2 (some .int) 1 := ⟨q_t6_12, q_t6_13, q_t1_1, q_t6_14, by decide +kernel⟩
def mX6_requireBend_b21 (k0 : Nat) (M : Mem) : Option (Mem × (Unit ⊕ Nat)) := some (M, Sum.inr 1)
set_option maxHeartbeats 4000000 in
set_option maxRecDepth 100000 in
theorem tX6_requireBend_b21 {p : Program} {l : Launch} {e : Env} {s : State} {m : MethodId} {args : Array Value} {below : List Frame} {meth : Method} {c : Code} {G : GT} {kd : Nat → Nat × Nat} {ad : Nat → Nat} (C : Cx p s m args meth c cX6_requireBend 2 none RX6 G kd ad) (hst : l.stackTraces = false) (htb : ∀ x ∈ c.exceptionTable.toList, False) {k0 : Nat} (hk0 : kRoot kd k0) {MO : Mem} {vo : Unit ⊕ Nat}   : ∀  (M : Mem), mX6_requireBend_b21 k0 M = some (MO, vo) → At p l e (rmO 1 1 6) s m args below meth c 0 0 (XQ G kd ad below args s MO (zv vo) 1 6) G kd ad 2 21 [] [] M := by
  intro M hf H locs ls hI hl
  obtain ⟨hx, hb, hml, hr, hown, hts, hlk, hK, hap, hsx⟩ := id C
  unfold mX6_requireBend_b21 at hf
  cases hf
  exact x_throw (text := "there is no such bend") (e9 := 1) true hx hb hst hml hown hts hlk hsx htb (by decide +kernel) fit_n q_t6_19 q_t1_21 (by decide +kernel) at_ioo nb_ioo gd_ioo_176 rfl hI hl.1 (dc tbX6_requireBend_k 10 rfl) (dc tbX6_requireBend_k 11 rfl) (dc tbX6_requireBend_k 12 rfl) (dc tbX6_requireBend_k 13 rfl) (dc tbX6_requireBend_k 14 rfl) (Nat.le_of_ble_eq_true rfl) (Nat.le_of_ble_eq_true rfl) ⟨Nat.le_of_ble_eq_true rfl, Nat.le_of_ble_eq_true rfl⟩ (Nat.le_of_ble_eq_true rfl) (Nat.le_of_ble_eq_true rfl)
def mX6_requireBend (k0 : Nat) (x1 : Int32) (M : Mem) : Option (Mem × (Unit ⊕ Nat)) := ite2 (x1 < 0) (mX6_requireBend_b21 k0 M) (cap (mX1_bendCount 5 M) (fun r3 => ite2 (r3 ≤ x1) (mX6_requireBend_b21 k0 M) (ite2 (x1 < (8 : Int32)) (some (M, Sum.inl ())) (mX6_requireBend_b21 k0 M))))
set_option maxHeartbeats 4000000 in
set_option maxRecDepth 100000 in
theorem tX6_requireBend (l : Launch) (hst : l.stackTraces = false) {G : GT} {kd : Nat → Nat × Nat} {ad : Nat → Nat} {k0 : Nat} (hk0 : kRoot kd k0) {x1 : Int32} {M : Mem} {MO : Mem} {vo : Unit ⊕ Nat} (hf : mX6_requireBend k0 x1 M = some (MO, vo)) (n : Nat) : vx_Met l yX6_requireBend (Cond.code yX6_requireBend cX6_requireBend 2 none :: WA) (rmO 1 1 6) (Pg G kd ad n [.ref (ad k0), .int x1] M) (Qx G kd ad n MO (zv vo)) (Xx G kd ad n MO (zv vo)) 1 6 (AS kd ad n) := by
  refine g_bodyX (own := RX6) (by decide) rfl ?_ (Nat.le_of_ble_eq_true rfl)
  intro p e s m args below meth c C htb _ H locs ls hI hl
  obtain ⟨hx, hb, hml, hr, hown, hts, hlk, hK, hap, hsx⟩ := id C
  have hl : lv_has ls 2 [(0, .ref (ad k0)), (1, .int x1)] := hl
  unfold mX6_requireBend at hf
  refine lv_iload_n hx hb (dc tbX6_requireBend_k 0 rfl) rfl (lv_at hl 1 rfl) ?_
  refine lv_if_lt (tgt := 21) hx hb (dc tbX6_requireBend_k 1 rfl) rfl (fun c1 => ?_) (fun c1 => ?_)
  · have hf := ite_t c1 hf
    exact tX6_requireBend_b21 C hst htb hk0 M hf _ _ _ hI (lv_sub hl [] rfl)
  · have hf := ite_f c1 hf
    refine lv_iload_n hx hb (dc tbX6_requireBend_k 2 rfl) rfl (lv_at hl 1 rfl) ?_
    refine lv_aload_n hx hb (dc tbX6_requireBend_k 3 rfl) rfl (lv_at hl 0 rfl) ?_
    refine gg6_3 hx hb hts hown hK hI hk0.1 q_t2_85 (dc tbX6_requireBend_k 4 rfl) ?_
    obtain ⟨r3, q2, hf⟩ := cap_s hf
    refine g_callVi hx hb hml hown hts hK hap hsx hI (tX1_bendCount l hk0.2.2.2.1 q2 H.size) cv_X1_bendCount q_t2_130 rfl rfl ⟨Nat.le_of_ble_eq_true rfl, Nat.le_of_ble_eq_true rfl⟩ hk0.2.2.2.1.1 (by simp) rfl rfl rfl hl.1 rfl (Nat.le_of_ble_eq_true rfl) (dc tbX6_requireBend_k 5 rfl) ⟨Nat.le_of_ble_eq_true rfl, Nat.le_of_ble_eq_true rfl⟩ (fun H locs hI => ?_)
    refine lv_icmp_ge (tgt := 21) hx hb (dc tbX6_requireBend_k 6 rfl) rfl (fun c5 => ?_) (fun c5 => ?_)
    · have hf := ite_t c5 hf
      exact tX6_requireBend_b21 C hst htb hk0 M hf _ _ _ hI (lv_sub hl [] rfl)
    · have hf := ite_f c5 hf
      refine lv_iload_n hx hb (dc tbX6_requireBend_k 7 rfl) rfl (lv_at hl 1 rfl) ?_
      refine lv_bipush (v := 8) hx hb (dc tbX6_requireBend_k 8 rfl) bp_8 ?_
      refine lv_icmp_lt (tgt := 32) hx hb (dc tbX6_requireBend_k 9 rfl) rfl (fun c6 => ?_) (fun c6 => ?_)
      · have hf := ite_t c6 hf
        cases hf
        refine W.widen (k := 1) (n := 6) (Nat.le_of_ble_eq_true rfl) (Nat.le_of_ble_eq_true rfl) ?_
        exact x_ret (g_vret hx hb hr hlk hI (dc tbX6_requireBend_k 15 rfl))
      · have hf := ite_f c6 hf
        exact tX6_requireBend_b21 C hst htb hk0 M hf _ _ _ hI (lv_sub hl [] rfl)
theorem cv_X6_requireBend : cvF RX6 yX6_requireBend cX6_requireBend 2 none 1 := ⟨q_t6_41, q_s2_12, q_t1_1, q_t6_42, by decide +kernel⟩
def mX6_isUp (k0 : Nat) (x1 : Int32) (M : Mem) : Option (Mem × (Int32 ⊕ Nat)) := calx (mX6_requireBend k0 x1 M) (fun M3 _ => cap (mX1_goesUp 5 x1 M3) (fun r6 => chk (isB r6) (some (M3, Sum.inl r6))))
set_option maxHeartbeats 4000000 in
set_option maxRecDepth 100000 in
theorem tX6_isUp (l : Launch) (hst : l.stackTraces = false) {G : GT} {kd : Nat → Nat × Nat} {ad : Nat → Nat} {k0 : Nat} (hk0 : kRoot kd k0) {x1 : Int32} {M : Mem} {MO : Mem} {vo : Int32 ⊕ Nat} (hf : mX6_isUp k0 x1 M = some (MO, vo)) (n : Nat) : vx_Met l yX6_isUp (Cond.code yX6_isUp cX6_isUp 2 (some .boolean) :: WA) (rmO 2 1 6) (Pg G kd ad n [.ref (ad k0), .int x1] M) (Qx G kd ad n MO (zi vo)) (Xx G kd ad n MO (zi vo)) 1 6 (AS kd ad n) := by
  refine g_bodyX (own := RX6) (by decide) rfl ?_ (Nat.le_of_ble_eq_true rfl)
  intro p e s m args below meth c C htb _ H locs ls hI hl
  obtain ⟨hx, hb, hml, hr, hown, hts, hlk, hK, hap, hsx⟩ := id C
  have hl : lv_has ls 2 [(0, .ref (ad k0)), (1, .int x1)] := hl
  unfold mX6_isUp at hf
  refine lv_aload_n hx hb (dc tbX6_isUp_k 0 rfl) rfl (lv_at hl 0 rfl) ?_
  refine lv_iload_n hx hb (dc tbX6_isUp_k 1 rfl) rfl (lv_at hl 1 rfl) ?_
  rcases calx_s hf with ⟨M3, r2, q1, hf⟩ | ⟨e4, q1, rfl⟩
  · refine x_callRv (g_runXV hx hb hml hown hts hK hap hsx hI (tX6_requireBend l hst hk0 q1 H.size) cv_X6_requireBend q_t6_39 rfl rfl ⟨Nat.le_of_ble_eq_true rfl, Nat.le_of_ble_eq_true rfl⟩ hk0.1 (by simp) rfl rfl rfl hl.1 rfl (Nat.le_of_ble_eq_true rfl) (dc tbX6_isUp_k 2 rfl) ⟨Nat.le_of_ble_eq_true rfl, Nat.le_of_ble_eq_true rfl⟩) hI (fun H locs hI => ?_)
    refine lv_aload_n hx hb (dc tbX6_isUp_k 3 rfl) rfl (lv_at hl 0 rfl) ?_
    refine gg6_3 hx hb hts hown hK hI hk0.1 q_t2_85 (dc tbX6_isUp_k 4 rfl) ?_
    refine lv_iload_n hx hb (dc tbX6_isUp_k 5 rfl) rfl (lv_at hl 1 rfl) ?_
    obtain ⟨r6, q5, hf⟩ := cap_s hf
    refine g_callVi hx hb hml hown hts hK hap hsx hI (tX1_goesUp l hk0.2.2.2.1 q5 H.size) cv_X1_goesUp q_t5_71 rfl rfl ⟨Nat.le_of_ble_eq_true rfl, Nat.le_of_ble_eq_true rfl⟩ hk0.2.2.2.1.1 (by simp) rfl rfl rfl hl.1 rfl (Nat.le_of_ble_eq_true rfl) (dc tbX6_isUp_k 6 rfl) ⟨Nat.le_of_ble_eq_true rfl, Nat.le_of_ble_eq_true rfl⟩ (fun H locs hI => ?_)
    obtain ⟨h8, hf⟩ := chk_s hf
    cases hf
    exact x_ret (g_zret hx hb hr hlk hI (isB_n h8) (dc tbX6_isUp_k 7 rfl))
  · exact x_callT (g_runXV hx hb hml hown hts hK hap hsx hI (tX6_requireBend l hst hk0 q1 H.size) cv_X6_requireBend q_t6_39 rfl rfl ⟨Nat.le_of_ble_eq_true rfl, Nat.le_of_ble_eq_true rfl⟩ hk0.1 (by simp) rfl rfl rfl hl.1 rfl (Nat.le_of_ble_eq_true rfl) (dc tbX6_isUp_k 2 rfl) ⟨Nat.le_of_ble_eq_true rfl, Nat.le_of_ble_eq_true rfl⟩) hI htb hlk (Nat.le_of_ble_eq_true rfl) (Nat.le_of_ble_eq_true rfl)
theorem cv_X6_isUp : cvF RX6 yX6_isUp cX6_isUp 2 (some .boolean) 1 := ⟨q_t6_36, q_t6_37, q_t1_1, q_t6_38, by decide +kernel⟩
def mX6_deduction (k0 : Nat) (M : Mem) : Option UInt64 := cap (mX1_deductionOfBend 5 M) (fun r2 => some r2)
set_option maxHeartbeats 4000000 in
set_option maxRecDepth 100000 in
theorem tX6_deduction (l : Launch) {G : GT} {kd : Nat → Nat × Nat} {ad : Nat → Nat} {k0 : Nat} (hk0 : kRoot kd k0) {M : Mem} {vo : UInt64} (hf : mX6_deduction k0 M = some vo) (n : Nat) : Met l yX6_deduction (Cond.code yX6_deduction cX6_deduction 1 (some .double) :: WA) (rmO 1 0 0) (Pg G kd ad n [.ref (ad k0)] M) (Qg G kd ad n M (some (.double vo))) 0 0 (AS kd ad n) := by
  refine g_body (own := RX6) (by decide) rfl ?_ (Nat.le_of_ble_eq_true rfl)
  intro p e s m args below meth c C _ H locs ls hI hl
  obtain ⟨hx, hb, hml, hr, hown, hts, hlk, hK, hap, hsx⟩ := id C
  have hl : lv_has ls 1 [(0, .ref (ad k0))] := hl
  unfold mX6_deduction at hf
  refine lv_aload_n hx hb (dc tbX6_deduction_k 0 rfl) rfl (lv_at hl 0 rfl) ?_
  refine gg6_3 hx hb hts hown hK hI hk0.1 q_t2_85 (dc tbX6_deduction_k 1 rfl) ?_
  obtain ⟨r2, q1, hf⟩ := cap_s hf
  refine g_callVd hx hb hml hown hts hK hap hsx hI (tX1_deductionOfBend l hk0.2.2.2.1 q1 H.size) cv_X1_deductionOfBend q_t2_142 rfl rfl ⟨Nat.le_of_ble_eq_true rfl, Nat.le_of_ble_eq_true rfl⟩ hk0.2.2.2.1.1 (by simp) rfl rfl rfl hl.1 rfl (Nat.le_of_ble_eq_true rfl) (dc tbX6_deduction_k 2 rfl) ⟨Nat.le_of_ble_eq_true rfl, Nat.le_of_ble_eq_true rfl⟩ (fun H locs hI => ?_)
  cases hf
  exact g_dret hx hb hr hlk hI (dc tbX6_deduction_k 3 rfl)
theorem cv_X6_deduction : cvF RX6 yX6_deduction cX6_deduction 1 (some .double) 0 := ⟨q_t2_139, q_t2_140, q_t1_1, q_t2_141, by decide +kernel⟩
def mX6_flatLength (k0 : Nat) (M : Mem) : Option UInt64 := ite2 ((rd M 5 0) = 0) (some FP.dconst0) (cap (mX1_sumOfLegs 5 (rd M 5 0) M) (fun r3 => cap (mX1_bendCount 5 M) (fun r6 => cap (mX1_deductionOfBend 5 M) (fun r9 => chk (n64b (FP.dmul (FP.i2d r6) r9)) (chk (n64b (FP.dsub (FP.i2d r3) (FP.dmul (FP.i2d r6) r9))) (some (FP.dsub (FP.i2d r3) (FP.dmul (FP.i2d r6) r9))))))))
set_option maxHeartbeats 4000000 in
set_option maxRecDepth 100000 in
theorem tX6_flatLength (l : Launch) {G : GT} {kd : Nat → Nat × Nat} {ad : Nat → Nat} {k0 : Nat} (hk0 : kRoot kd k0) {M : Mem} {vo : UInt64} (hf : mX6_flatLength k0 M = some vo) (n : Nat) : Met l yX6_flatLength (Cond.code yX6_flatLength cX6_flatLength 1 (some .double) :: WA) (rmO 1 0 0) (Pg G kd ad n [.ref (ad k0)] M) (Qg G kd ad n M (some (.double vo))) 0 0 (AS kd ad n) := by
  refine g_body (own := RX6) (by decide) rfl ?_ (Nat.le_of_ble_eq_true rfl)
  intro p e s m args below meth c C _ H locs ls hI hl
  obtain ⟨hx, hb, hml, hr, hown, hts, hlk, hK, hap, hsx⟩ := id C
  have hl : lv_has ls 1 [(0, .ref (ad k0))] := hl
  unfold mX6_flatLength at hf
  refine lv_aload_n hx hb (dc tbX6_flatLength_k 0 rfl) rfl (lv_at hl 0 rfl) ?_
  refine gg6_3 hx hb hts hown hK hI hk0.1 q_t2_85 (dc tbX6_flatLength_k 1 rfl) ?_
  refine gg1_0 hx hb hts hown hK hI hk0.2.2.2.1.1 q_t1_104 (dc tbX6_flatLength_k 2 rfl) ?_
  refine lv_if_ne (tgt := 12) hx hb (dc tbX6_flatLength_k 3 rfl) rfl (fun c1 => ?_) (fun c1 => ?_)
  · have hf := ite_f c1 hf
    refine lv_aload_n hx hb (dc tbX6_flatLength_k 6 rfl) rfl (lv_at hl 0 rfl) ?_
    refine gg6_3 hx hb hts hown hK hI hk0.1 q_t2_85 (dc tbX6_flatLength_k 7 rfl) ?_
    refine lv_aload_n hx hb (dc tbX6_flatLength_k 8 rfl) rfl (lv_at hl 0 rfl) ?_
    refine gg6_3 hx hb hts hown hK hI hk0.1 q_t2_85 (dc tbX6_flatLength_k 9 rfl) ?_
    refine gg1_0 hx hb hts hown hK hI hk0.2.2.2.1.1 q_t1_104 (dc tbX6_flatLength_k 10 rfl) ?_
    obtain ⟨r3, q2, hf⟩ := cap_s hf
    refine g_callVi hx hb hml hown hts hK hap hsx hI (tX1_sumOfLegs l hk0.2.2.2.1 q2 H.size) cv_X1_sumOfLegs q_t2_153 rfl rfl ⟨Nat.le_of_ble_eq_true rfl, Nat.le_of_ble_eq_true rfl⟩ hk0.2.2.2.1.1 (by simp) rfl rfl rfl hl.1 rfl (Nat.le_of_ble_eq_true rfl) (dc tbX6_flatLength_k 11 rfl) ⟨Nat.le_of_ble_eq_true rfl, Nat.le_of_ble_eq_true rfl⟩ (fun H locs hI => ?_)
    refine lv_i2d hx hb (dc tbX6_flatLength_k 12 rfl) ?_
    refine lv_aload_n hx hb (dc tbX6_flatLength_k 13 rfl) rfl (lv_at hl 0 rfl) ?_
    refine gg6_3 hx hb hts hown hK hI hk0.1 q_t2_85 (dc tbX6_flatLength_k 14 rfl) ?_
    obtain ⟨r6, q5, hf⟩ := cap_s hf
    refine g_callVi hx hb hml hown hts hK hap hsx hI (tX1_bendCount l hk0.2.2.2.1 q5 H.size) cv_X1_bendCount q_t2_130 rfl rfl ⟨Nat.le_of_ble_eq_true rfl, Nat.le_of_ble_eq_true rfl⟩ hk0.2.2.2.1.1 (by simp) rfl rfl rfl hl.1 rfl (Nat.le_of_ble_eq_true rfl) (dc tbX6_flatLength_k 15 rfl) ⟨Nat.le_of_ble_eq_true rfl, Nat.le_of_ble_eq_true rfl⟩ (fun H locs hI => ?_)
    refine lv_i2d hx hb (dc tbX6_flatLength_k 16 rfl) ?_
    refine lv_aload_n hx hb (dc tbX6_flatLength_k 17 rfl) rfl (lv_at hl 0 rfl) ?_
    refine gg6_3 hx hb hts hown hK hI hk0.1 q_t2_85 (dc tbX6_flatLength_k 18 rfl) ?_
    obtain ⟨r9, q8, hf⟩ := cap_s hf
    refine g_callVd hx hb hml hown hts hK hap hsx hI (tX1_deductionOfBend l hk0.2.2.2.1 q8 H.size) cv_X1_deductionOfBend q_t2_142 rfl rfl ⟨Nat.le_of_ble_eq_true rfl, Nat.le_of_ble_eq_true rfl⟩ hk0.2.2.2.1.1 (by simp) rfl rfl rfl hl.1 rfl (Nat.le_of_ble_eq_true rfl) (dc tbX6_flatLength_k 19 rfl) ⟨Nat.le_of_ble_eq_true rfl, Nat.le_of_ble_eq_true rfl⟩ (fun H locs hI => ?_)
    obtain ⟨h11, hf⟩ := chk_s hf
    refine lv_dmul hx hb (dc tbX6_flatLength_k 20 rfl) (n64_b h11) ?_
    obtain ⟨h12, hf⟩ := chk_s hf
    refine lv_dsub hx hb (dc tbX6_flatLength_k 21 rfl) (n64_b h12) ?_
    cases hf
    exact g_dret hx hb hr hlk hI (dc tbX6_flatLength_k 22 rfl)
  · have hf := ite_t c1 hf
    refine lv_dconst0 hx hb (dc tbX6_flatLength_k 4 rfl) ?_
    cases hf
    exact g_dret hx hb hr hlk hI (dc tbX6_flatLength_k 5 rfl)
theorem cv_X6_flatLength : cvF RX6 yX6_flatLength cX6_flatLength 1 (some .double) 0 := ⟨q_t2_150, q_t2_151, q_t1_1, q_t2_152, by decide +kernel⟩
def mX6_linePlace (k0 : Nat) (x1 : Int32) (M : Mem) : Option (Mem × (UInt64 ⊕ Nat)) := calx (mX6_requireBend k0 x1 M) (fun M3 _ => cap (mX1_sumOfLegs 5 (x1 + (1 : Int32)) M3) (fun r6 => chk (n64b (FP.dadd (FP.i2d x1) (4602678819172646912 : UInt64))) (cap (mX1_deductionOfBend 5 M3) (fun r10 => chk (n64b (FP.dmul (FP.dadd (FP.i2d x1) (4602678819172646912 : UInt64)) r10)) (chk (n64b (FP.dsub (FP.i2d r6) (FP.dmul (FP.dadd (FP.i2d x1) (4602678819172646912 : UInt64)) r10))) (some (M3, Sum.inl (FP.dsub (FP.i2d r6) (FP.dmul (FP.dadd (FP.i2d x1) (4602678819172646912 : UInt64)) r10)))))))))
set_option maxHeartbeats 4000000 in
set_option maxRecDepth 100000 in
theorem tX6_linePlace (l : Launch) (hst : l.stackTraces = false) {G : GT} {kd : Nat → Nat × Nat} {ad : Nat → Nat} {k0 : Nat} (hk0 : kRoot kd k0) {x1 : Int32} {M : Mem} {MO : Mem} {vo : UInt64 ⊕ Nat} (hf : mX6_linePlace k0 x1 M = some (MO, vo)) (n : Nat) : vx_Met l yX6_linePlace (Cond.code yX6_linePlace cX6_linePlace 2 (some .double) :: WA) (rmO 2 1 6) (Pg G kd ad n [.ref (ad k0), .int x1] M) (Qx G kd ad n MO (zd vo)) (Xx G kd ad n MO (zd vo)) 1 6 (AS kd ad n) := by
  refine g_bodyX (own := RX6) (by decide) rfl ?_ (Nat.le_of_ble_eq_true rfl)
  intro p e s m args below meth c C htb _ H locs ls hI hl
  obtain ⟨hx, hb, hml, hr, hown, hts, hlk, hK, hap, hsx⟩ := id C
  have hl : lv_has ls 2 [(0, .ref (ad k0)), (1, .int x1)] := hl
  unfold mX6_linePlace at hf
  refine lv_aload_n hx hb (dc tbX6_linePlace_k 0 rfl) rfl (lv_at hl 0 rfl) ?_
  refine lv_iload_n hx hb (dc tbX6_linePlace_k 1 rfl) rfl (lv_at hl 1 rfl) ?_
  rcases calx_s hf with ⟨M3, r2, q1, hf⟩ | ⟨e4, q1, rfl⟩
  · refine x_callRv (g_runXV hx hb hml hown hts hK hap hsx hI (tX6_requireBend l hst hk0 q1 H.size) cv_X6_requireBend q_t6_39 rfl rfl ⟨Nat.le_of_ble_eq_true rfl, Nat.le_of_ble_eq_true rfl⟩ hk0.1 (by simp) rfl rfl rfl hl.1 rfl (Nat.le_of_ble_eq_true rfl) (dc tbX6_linePlace_k 2 rfl) ⟨Nat.le_of_ble_eq_true rfl, Nat.le_of_ble_eq_true rfl⟩) hI (fun H locs hI => ?_)
    refine lv_aload_n hx hb (dc tbX6_linePlace_k 3 rfl) rfl (lv_at hl 0 rfl) ?_
    refine gg6_3 hx hb hts hown hK hI hk0.1 q_t2_85 (dc tbX6_linePlace_k 4 rfl) ?_
    refine lv_iload_n hx hb (dc tbX6_linePlace_k 5 rfl) rfl (lv_at hl 1 rfl) ?_
    refine lv_iconst (v := 1) hx hb (dc tbX6_linePlace_k 6 rfl) ic_1 ?_
    refine lv_iadd hx hb (dc tbX6_linePlace_k 7 rfl) ?_
    obtain ⟨r6, q5, hf⟩ := cap_s hf
    refine g_callVi hx hb hml hown hts hK hap hsx hI (tX1_sumOfLegs l hk0.2.2.2.1 q5 H.size) cv_X1_sumOfLegs q_t2_153 rfl rfl ⟨Nat.le_of_ble_eq_true rfl, Nat.le_of_ble_eq_true rfl⟩ hk0.2.2.2.1.1 (by simp) rfl rfl rfl hl.1 rfl (Nat.le_of_ble_eq_true rfl) (dc tbX6_linePlace_k 8 rfl) ⟨Nat.le_of_ble_eq_true rfl, Nat.le_of_ble_eq_true rfl⟩ (fun H locs hI => ?_)
    refine lv_i2d hx hb (dc tbX6_linePlace_k 9 rfl) ?_
    refine lv_iload_n hx hb (dc tbX6_linePlace_k 10 rfl) rfl (lv_at hl 1 rfl) ?_
    refine lv_i2d hx hb (dc tbX6_linePlace_k 11 rfl) ?_
    refine lv_ldc2d hx hb hown (hts _ q_t6_51) (dc tbX6_linePlace_k 12 rfl) ?_
    obtain ⟨h8, hf⟩ := chk_s hf
    refine lv_dadd hx hb (dc tbX6_linePlace_k 13 rfl) (n64_b h8) ?_
    refine lv_aload_n hx hb (dc tbX6_linePlace_k 14 rfl) rfl (lv_at hl 0 rfl) ?_
    refine gg6_3 hx hb hts hown hK hI hk0.1 q_t2_85 (dc tbX6_linePlace_k 15 rfl) ?_
    obtain ⟨r10, q9, hf⟩ := cap_s hf
    refine g_callVd hx hb hml hown hts hK hap hsx hI (tX1_deductionOfBend l hk0.2.2.2.1 q9 H.size) cv_X1_deductionOfBend q_t2_142 rfl rfl ⟨Nat.le_of_ble_eq_true rfl, Nat.le_of_ble_eq_true rfl⟩ hk0.2.2.2.1.1 (by simp) rfl rfl rfl hl.1 rfl (Nat.le_of_ble_eq_true rfl) (dc tbX6_linePlace_k 16 rfl) ⟨Nat.le_of_ble_eq_true rfl, Nat.le_of_ble_eq_true rfl⟩ (fun H locs hI => ?_)
    obtain ⟨h12, hf⟩ := chk_s hf
    refine lv_dmul hx hb (dc tbX6_linePlace_k 17 rfl) (n64_b h12) ?_
    obtain ⟨h13, hf⟩ := chk_s hf
    refine lv_dsub hx hb (dc tbX6_linePlace_k 18 rfl) (n64_b h13) ?_
    cases hf
    exact x_ret (g_dret hx hb hr hlk hI (dc tbX6_linePlace_k 19 rfl))
  · exact x_callT (g_runXV hx hb hml hown hts hK hap hsx hI (tX6_requireBend l hst hk0 q1 H.size) cv_X6_requireBend q_t6_39 rfl rfl ⟨Nat.le_of_ble_eq_true rfl, Nat.le_of_ble_eq_true rfl⟩ hk0.1 (by simp) rfl rfl rfl hl.1 rfl (Nat.le_of_ble_eq_true rfl) (dc tbX6_linePlace_k 2 rfl) ⟨Nat.le_of_ble_eq_true rfl, Nat.le_of_ble_eq_true rfl⟩) hI htb hlk (Nat.le_of_ble_eq_true rfl) (Nat.le_of_ble_eq_true rfl)
theorem cv_X6_linePlace : cvF RX6 yX6_linePlace cX6_linePlace 2 (some .double) 1 := ⟨q_t6_48, q_t6_49, q_t1_1, q_t6_50, by decide +kernel⟩
def mX6_ratio (k0 : Nat) (M : Mem) : Option UInt64 := cap (mX1_ratioOfSheet 5 M) (fun r2 => some r2)
set_option maxHeartbeats 4000000 in
set_option maxRecDepth 100000 in
theorem tX6_ratio (l : Launch) {G : GT} {kd : Nat → Nat × Nat} {ad : Nat → Nat} {k0 : Nat} (hk0 : kRoot kd k0) {M : Mem} {vo : UInt64} (hf : mX6_ratio k0 M = some vo) (n : Nat) : Met l yX6_ratio (Cond.code yX6_ratio cX6_ratio 1 (some .double) :: WA) (rmO 1 0 0) (Pg G kd ad n [.ref (ad k0)] M) (Qg G kd ad n M (some (.double vo))) 0 0 (AS kd ad n) := by
  refine g_body (own := RX6) (by decide) rfl ?_ (Nat.le_of_ble_eq_true rfl)
  intro p e s m args below meth c C _ H locs ls hI hl
  obtain ⟨hx, hb, hml, hr, hown, hts, hlk, hK, hap, hsx⟩ := id C
  have hl : lv_has ls 1 [(0, .ref (ad k0))] := hl
  unfold mX6_ratio at hf
  refine lv_aload_n hx hb (dc tbX6_ratio_k 0 rfl) rfl (lv_at hl 0 rfl) ?_
  refine gg6_3 hx hb hts hown hK hI hk0.1 q_t2_85 (dc tbX6_ratio_k 1 rfl) ?_
  obtain ⟨r2, q1, hf⟩ := cap_s hf
  refine g_callVd hx hb hml hown hts hK hap hsx hI (tX1_ratioOfSheet l hk0.2.2.2.1 q1 H.size) cv_X1_ratioOfSheet q_t2_161 rfl rfl ⟨Nat.le_of_ble_eq_true rfl, Nat.le_of_ble_eq_true rfl⟩ hk0.2.2.2.1.1 (by simp) rfl rfl rfl hl.1 rfl (Nat.le_of_ble_eq_true rfl) (dc tbX6_ratio_k 2 rfl) ⟨Nat.le_of_ble_eq_true rfl, Nat.le_of_ble_eq_true rfl⟩ (fun H locs hI => ?_)
  cases hf
  exact g_dret hx hb hr hlk hI (dc tbX6_ratio_k 3 rfl)
theorem cv_X6_ratio : cvF RX6 yX6_ratio cX6_ratio 1 (some .double) 0 := ⟨q_t2_158, q_t2_159, q_t1_1, q_t2_160, by decide +kernel⟩
def mX6_springBack (k0 : Nat) (M : Mem) : Option UInt64 := cap (mX1_ratioOfSheet 5 M) (fun r2 => cap (mX1_springBackAt 5 r2 M) (fun r5 => some r5))
set_option maxHeartbeats 4000000 in
set_option maxRecDepth 100000 in
theorem tX6_springBack (l : Launch) {G : GT} {kd : Nat → Nat × Nat} {ad : Nat → Nat} {k0 : Nat} (hk0 : kRoot kd k0) {M : Mem} {vo : UInt64} (hf : mX6_springBack k0 M = some vo) (n : Nat) : Met l yX6_springBack (Cond.code yX6_springBack cX6_springBack 1 (some .double) :: WA) (rmO 2 0 0) (Pg G kd ad n [.ref (ad k0)] M) (Qg G kd ad n M (some (.double vo))) 0 0 (AS kd ad n) := by
  refine g_body (own := RX6) (by decide) rfl ?_ (Nat.le_of_ble_eq_true rfl)
  intro p e s m args below meth c C _ H locs ls hI hl
  obtain ⟨hx, hb, hml, hr, hown, hts, hlk, hK, hap, hsx⟩ := id C
  have hl : lv_has ls 1 [(0, .ref (ad k0))] := hl
  unfold mX6_springBack at hf
  refine lv_aload_n hx hb (dc tbX6_springBack_k 0 rfl) rfl (lv_at hl 0 rfl) ?_
  refine gg6_3 hx hb hts hown hK hI hk0.1 q_t2_85 (dc tbX6_springBack_k 1 rfl) ?_
  refine lv_aload_n hx hb (dc tbX6_springBack_k 2 rfl) rfl (lv_at hl 0 rfl) ?_
  refine gg6_3 hx hb hts hown hK hI hk0.1 q_t2_85 (dc tbX6_springBack_k 3 rfl) ?_
  obtain ⟨r2, q1, hf⟩ := cap_s hf
  refine g_callVd hx hb hml hown hts hK hap hsx hI (tX1_ratioOfSheet l hk0.2.2.2.1 q1 H.size) cv_X1_ratioOfSheet q_t2_161 rfl rfl ⟨Nat.le_of_ble_eq_true rfl, Nat.le_of_ble_eq_true rfl⟩ hk0.2.2.2.1.1 (by simp) rfl rfl rfl hl.1 rfl (Nat.le_of_ble_eq_true rfl) (dc tbX6_springBack_k 4 rfl) ⟨Nat.le_of_ble_eq_true rfl, Nat.le_of_ble_eq_true rfl⟩ (fun H locs hI => ?_)
  obtain ⟨r5, q4, hf⟩ := cap_s hf
  refine g_callVd hx hb hml hown hts hK hap hsx hI (tX1_springBackAt l hk0.2.2.2.1 q4 H.size) cv_X1_springBackAt q_t2_170 rfl rfl ⟨Nat.le_of_ble_eq_true rfl, Nat.le_of_ble_eq_true rfl⟩ hk0.2.2.2.1.1 (by simp) rfl rfl rfl hl.1 rfl (Nat.le_of_ble_eq_true rfl) (dc tbX6_springBack_k 5 rfl) ⟨Nat.le_of_ble_eq_true rfl, Nat.le_of_ble_eq_true rfl⟩ (fun H locs hI => ?_)
  cases hf
  exact g_dret hx hb hr hlk hI (dc tbX6_springBack_k 6 rfl)
theorem cv_X6_springBack : cvF RX6 yX6_springBack cX6_springBack 1 (some .double) 0 := ⟨q_t2_167, q_t2_168, q_t1_1, q_t2_169, by decide +kernel⟩
def mX6_springBackFor_b19 (k0 : Nat) (x1 : UInt64) (y0 : Int32) (M : Mem) : Option (Mem × (UInt64 ⊕ Nat)) := ite2 (y0 = 0) (some (M, Sum.inr 0)) (cap (mX1_springBackAt 5 x1 M) (fun r4 => some (M, Sum.inl r4)))
set_option maxHeartbeats 4000000 in
set_option maxRecDepth 100000 in
theorem tX6_springBackFor_b19 {p : Program} {l : Launch} {e : Env} {s : State} {m : MethodId} {args : Array Value} {below : List Frame} {meth : Method} {c : Code} {G : GT} {kd : Nat → Nat × Nat} {ad : Nat → Nat} (C : Cx p s m args meth c cX6_springBackFor 4 (some .double) RX6 G kd ad) (hst : l.stackTraces = false) (htb : ∀ x ∈ c.exceptionTable.toList, False) {k0 : Nat} (hk0 : kRoot kd k0) {MO : Mem} {vo : UInt64 ⊕ Nat}   : ∀ (x1 : UInt64) (y0 : Int32) (M : Mem), mX6_springBackFor_b19 k0 x1 y0 M = some (MO, vo) → At p l e (rmO 2 1 6) s m args below meth c 0 0 (XQ G kd ad below args s MO (zd vo) 1 6) G kd ad 4 19 [(0, .ref (ad k0)), (1, .double x1)] [.int y0] M := by
  intro x1 y0 M hf H locs ls hI hl
  obtain ⟨hx, hb, hml, hr, hown, hts, hlk, hK, hap, hsx⟩ := id C
  unfold mX6_springBackFor_b19 at hf
  refine lv_istore_n (lv' := [(3, .int y0), (0, .ref (ad k0)), (1, .double x1)]) hx hb (dc tbX6_springBackFor_k 11 rfl) rfl hl (by decide) rfl (fun ls hl => ?_)
  refine lv_iload_n hx hb (dc tbX6_springBackFor_k 12 rfl) rfl (lv_at hl 0 rfl) ?_
  refine lv_if_ne (tgt := 34) hx hb (dc tbX6_springBackFor_k 13 rfl) rfl (fun c2 => ?_) (fun c2 => ?_)
  · have hf := ite_f c2 hf
    refine lv_aload_n hx hb (dc tbX6_springBackFor_k 19 rfl) rfl (lv_at hl 1 rfl) ?_
    refine gg6_3 hx hb hts hown hK hI hk0.1 q_t2_85 (dc tbX6_springBackFor_k 20 rfl) ?_
    refine lv_dload_n hx hb (dc tbX6_springBackFor_k 21 rfl) rfl (lv_at hl 2 rfl) ?_
    obtain ⟨r4, q3, hf⟩ := cap_s hf
    refine g_callVd hx hb hml hown hts hK hap hsx hI (tX1_springBackAt l hk0.2.2.2.1 q3 H.size) cv_X1_springBackAt q_t2_170 rfl rfl ⟨Nat.le_of_ble_eq_true rfl, Nat.le_of_ble_eq_true rfl⟩ hk0.2.2.2.1.1 (by simp) rfl rfl rfl hl.1 rfl (Nat.le_of_ble_eq_true rfl) (dc tbX6_springBackFor_k 22 rfl) ⟨Nat.le_of_ble_eq_true rfl, Nat.le_of_ble_eq_true rfl⟩ (fun H locs hI => ?_)
    cases hf
    refine W.widen (k := 1) (n := 6) (Nat.le_of_ble_eq_true rfl) (Nat.le_of_ble_eq_true rfl) ?_
    exact x_ret (g_dret hx hb hr hlk hI (dc tbX6_springBackFor_k 23 rfl))
  · have hf := ite_t c2 hf
    cases hf
    exact x_throw (text := "ratio is not 0.0 to 9999.0") (e9 := 0) false hx hb hst hml hown hts hlk hsx htb (by decide +kernel) fit_n q_t5_106 q_t1_15 (by decide +kernel) at_iae nb_iae gd_iae_66 rfl hI hl.1 (dc tbX6_springBackFor_k 14 rfl) (dc tbX6_springBackFor_k 15 rfl) (dc tbX6_springBackFor_k 16 rfl) (dc tbX6_springBackFor_k 17 rfl) (dc tbX6_springBackFor_k 18 rfl) (Nat.le_of_ble_eq_true rfl) (Nat.le_of_ble_eq_true rfl) ⟨Nat.le_of_ble_eq_true rfl, Nat.le_of_ble_eq_true rfl⟩ (Nat.le_of_ble_eq_true rfl) (Nat.le_of_ble_eq_true rfl)
def mX6_springBackFor_b18 (k0 : Nat) (x1 : UInt64) (M : Mem) : Option (Mem × (UInt64 ⊕ Nat)) := mX6_springBackFor_b19 k0 x1 (0 : Int32) M
set_option maxHeartbeats 4000000 in
set_option maxRecDepth 100000 in
theorem tX6_springBackFor_b18 {p : Program} {l : Launch} {e : Env} {s : State} {m : MethodId} {args : Array Value} {below : List Frame} {meth : Method} {c : Code} {G : GT} {kd : Nat → Nat × Nat} {ad : Nat → Nat} (C : Cx p s m args meth c cX6_springBackFor 4 (some .double) RX6 G kd ad) (hst : l.stackTraces = false) (htb : ∀ x ∈ c.exceptionTable.toList, False) {k0 : Nat} (hk0 : kRoot kd k0) {MO : Mem} {vo : UInt64 ⊕ Nat}   : ∀ (x1 : UInt64) (M : Mem), mX6_springBackFor_b18 k0 x1 M = some (MO, vo) → At p l e (rmO 2 1 6) s m args below meth c 0 0 (XQ G kd ad below args s MO (zd vo) 1 6) G kd ad 4 18 [(0, .ref (ad k0)), (1, .double x1)] [] M := by
  intro x1 M hf H locs ls hI hl
  obtain ⟨hx, hb, hml, hr, hown, hts, hlk, hK, hap, hsx⟩ := id C
  unfold mX6_springBackFor_b18 at hf
  refine lv_iconst (v := 0) hx hb (dc tbX6_springBackFor_k 10 rfl) ic_0 ?_
  exact tX6_springBackFor_b19 C hst htb hk0 x1 (0 : Int32) M hf _ _ _ hI (lv_sub hl [0, 1] rfl)
def mX6_springBackFor (k0 : Nat) (x1 : UInt64) (M : Mem) : Option (Mem × (UInt64 ⊕ Nat)) := ite2 ((Op.cmpValue (FP.dcmp x1 FP.dconst0) CmpOp.l) < 0) (mX6_springBackFor_b18 k0 x1 M) (ite2 (0 < (Op.cmpValue (FP.dcmp x1 (4666722622711529472 : UInt64)) CmpOp.g)) (mX6_springBackFor_b18 k0 x1 M) (mX6_springBackFor_b19 k0 x1 (1 : Int32) M))
set_option maxHeartbeats 4000000 in
set_option maxRecDepth 100000 in
theorem tX6_springBackFor (l : Launch) (hst : l.stackTraces = false) {G : GT} {kd : Nat → Nat × Nat} {ad : Nat → Nat} {k0 : Nat} (hk0 : kRoot kd k0) {x1 : UInt64} {M : Mem} {MO : Mem} {vo : UInt64 ⊕ Nat} (hf : mX6_springBackFor k0 x1 M = some (MO, vo)) (n : Nat) : vx_Met l yX6_springBackFor (Cond.code yX6_springBackFor cX6_springBackFor 4 (some .double) :: WA) (rmO 2 1 6) (Pg G kd ad n [.ref (ad k0), .double x1] M) (Qx G kd ad n MO (zd vo)) (Xx G kd ad n MO (zd vo)) 1 6 (AS kd ad n) := by
  refine g_bodyX (own := RX6) (by decide) rfl ?_ (Nat.le_of_ble_eq_true rfl)
  intro p e s m args below meth c C htb _ H locs ls hI hl
  obtain ⟨hx, hb, hml, hr, hown, hts, hlk, hK, hap, hsx⟩ := id C
  have hl : lv_has ls 4 [(0, .ref (ad k0)), (1, .double x1)] := hl
  unfold mX6_springBackFor at hf
  refine lv_dload_n hx hb (dc tbX6_springBackFor_k 0 rfl) rfl (lv_at hl 1 rfl) ?_
  refine lv_dconst0 hx hb (dc tbX6_springBackFor_k 1 rfl) ?_
  refine lv_dcmp hx hb (dc tbX6_springBackFor_k 2 rfl) ?_
  refine lv_if_lt (tgt := 18) hx hb (dc tbX6_springBackFor_k 3 rfl) rfl (fun c1 => ?_) (fun c1 => ?_)
  · have hf := ite_t c1 hf
    exact tX6_springBackFor_b18 C hst htb hk0 x1 M hf _ _ _ hI (lv_sub hl [0, 1] rfl)
  · have hf := ite_f c1 hf
    refine lv_dload_n hx hb (dc tbX6_springBackFor_k 4 rfl) rfl (lv_at hl 1 rfl) ?_
    refine lv_ldc2d hx hb hown (hts _ q_t6_59) (dc tbX6_springBackFor_k 5 rfl) ?_
    refine lv_dcmp hx hb (dc tbX6_springBackFor_k 6 rfl) ?_
    refine lv_if_gt (tgt := 18) hx hb (dc tbX6_springBackFor_k 7 rfl) rfl (fun c6 => ?_) (fun c6 => ?_)
    · have hf := ite_t c6 hf
      exact tX6_springBackFor_b18 C hst htb hk0 x1 M hf _ _ _ hI (lv_sub hl [0, 1] rfl)
    · have hf := ite_f c6 hf
      refine lv_iconst (v := 1) hx hb (dc tbX6_springBackFor_k 8 rfl) ic_1 ?_
      refine lv_goto (tgt := 19) hx hb (dc tbX6_springBackFor_k 9 rfl) rfl ?_
      exact tX6_springBackFor_b19 C hst htb hk0 x1 (1 : Int32) M hf _ _ _ hI (lv_sub hl [0, 1] rfl)
theorem cv_X6_springBackFor : cvF RX6 yX6_springBackFor cX6_springBackFor 4 (some .double) 1 := ⟨q_t6_56, q_t6_57, q_t1_1, q_t6_58, by decide +kernel⟩
def mX6_swingAngle (k0 : Nat) (M : Mem) : Option Int32 := cap (mX1_ratioOfSheet 5 M) (fun r2 => cap (mX1_springBackAt 5 r2 M) (fun r5 => some ((900 : Int32) + (FP.d2i r5))))
set_option maxHeartbeats 4000000 in
set_option maxRecDepth 100000 in
theorem tX6_swingAngle (l : Launch) {G : GT} {kd : Nat → Nat × Nat} {ad : Nat → Nat} {k0 : Nat} (hk0 : kRoot kd k0) {M : Mem} {vo : Int32} (hf : mX6_swingAngle k0 M = some vo) (n : Nat) : Met l yX6_swingAngle (Cond.code yX6_swingAngle cX6_swingAngle 1 (some .int) :: WA) (rmO 2 0 0) (Pg G kd ad n [.ref (ad k0)] M) (Qg G kd ad n M (some (.int vo))) 0 0 (AS kd ad n) := by
  refine g_body (own := RX6) (by decide) rfl ?_ (Nat.le_of_ble_eq_true rfl)
  intro p e s m args below meth c C _ H locs ls hI hl
  obtain ⟨hx, hb, hml, hr, hown, hts, hlk, hK, hap, hsx⟩ := id C
  have hl : lv_has ls 1 [(0, .ref (ad k0))] := hl
  unfold mX6_swingAngle at hf
  refine lv_sipush (v := 900) hx hb (dc tbX6_swingAngle_k 0 rfl) sp_900 ?_
  refine lv_aload_n hx hb (dc tbX6_swingAngle_k 1 rfl) rfl (lv_at hl 0 rfl) ?_
  refine gg6_3 hx hb hts hown hK hI hk0.1 q_t2_85 (dc tbX6_swingAngle_k 2 rfl) ?_
  refine lv_aload_n hx hb (dc tbX6_swingAngle_k 3 rfl) rfl (lv_at hl 0 rfl) ?_
  refine gg6_3 hx hb hts hown hK hI hk0.1 q_t2_85 (dc tbX6_swingAngle_k 4 rfl) ?_
  obtain ⟨r2, q1, hf⟩ := cap_s hf
  refine g_callVd hx hb hml hown hts hK hap hsx hI (tX1_ratioOfSheet l hk0.2.2.2.1 q1 H.size) cv_X1_ratioOfSheet q_t2_161 rfl rfl ⟨Nat.le_of_ble_eq_true rfl, Nat.le_of_ble_eq_true rfl⟩ hk0.2.2.2.1.1 (by simp) rfl rfl rfl hl.1 rfl (Nat.le_of_ble_eq_true rfl) (dc tbX6_swingAngle_k 5 rfl) ⟨Nat.le_of_ble_eq_true rfl, Nat.le_of_ble_eq_true rfl⟩ (fun H locs hI => ?_)
  obtain ⟨r5, q4, hf⟩ := cap_s hf
  refine g_callVd hx hb hml hown hts hK hap hsx hI (tX1_springBackAt l hk0.2.2.2.1 q4 H.size) cv_X1_springBackAt q_t2_170 rfl rfl ⟨Nat.le_of_ble_eq_true rfl, Nat.le_of_ble_eq_true rfl⟩ hk0.2.2.2.1.1 (by simp) rfl rfl rfl hl.1 rfl (Nat.le_of_ble_eq_true rfl) (dc tbX6_swingAngle_k 6 rfl) ⟨Nat.le_of_ble_eq_true rfl, Nat.le_of_ble_eq_true rfl⟩ (fun H locs hI => ?_)
  refine lv_d2i hx hb (dc tbX6_swingAngle_k 7 rfl) ?_
  refine lv_iadd hx hb (dc tbX6_swingAngle_k 8 rfl) ?_
  cases hf
  exact g_iret hx hb hr hlk hI (dc tbX6_swingAngle_k 9 rfl)
theorem cv_X6_swingAngle : cvF RX6 yX6_swingAngle cX6_swingAngle 1 (some .int) 0 := ⟨q_t2_179, q_t2_180, q_t1_1, q_t2_181, by decide +kernel⟩
def mX6_tool_b21 (k0 : Nat) (M : Mem) : Option (Mem × (Int32 ⊕ Nat)) := some (M, Sum.inr 0)
set_option maxHeartbeats 4000000 in
set_option maxRecDepth 100000 in
theorem tX6_tool_b21 {p : Program} {l : Launch} {e : Env} {s : State} {m : MethodId} {args : Array Value} {below : List Frame} {meth : Method} {c : Code} {G : GT} {kd : Nat → Nat × Nat} {ad : Nat → Nat} (C : Cx p s m args meth c cX6_tool 4 (some .int) RX6 G kd ad) (hst : l.stackTraces = false) (htb : ∀ x ∈ c.exceptionTable.toList, False) {k0 : Nat} (hk0 : kRoot kd k0) {MO : Mem} {vo : Int32 ⊕ Nat}   : ∀  (M : Mem), mX6_tool_b21 k0 M = some (MO, vo) → At p l e (rmO 1 1 6) s m args below meth c 0 0 (XQ G kd ad below args s MO (zi vo) 1 6) G kd ad 4 21 [] [] M := by
  intro M hf H locs ls hI hl
  obtain ⟨hx, hb, hml, hr, hown, hts, hlk, hK, hap, hsx⟩ := id C
  unfold mX6_tool_b21 at hf
  cases hf
  exact x_throw (text := "there is no such number of a tool") (e9 := 0) false hx hb hst hml hown hts hlk hsx htb (by decide +kernel) fit_n q_t5_106 q_t1_15 (by decide +kernel) at_iae nb_iae gd_iae_66 rfl hI hl.1 (dc tbX6_tool_k 11 rfl) (dc tbX6_tool_k 12 rfl) (dc tbX6_tool_k 13 rfl) (dc tbX6_tool_k 14 rfl) (dc tbX6_tool_k 15 rfl) (Nat.le_of_ble_eq_true rfl) (Nat.le_of_ble_eq_true rfl) ⟨Nat.le_of_ble_eq_true rfl, Nat.le_of_ble_eq_true rfl⟩ (Nat.le_of_ble_eq_true rfl) (Nat.le_of_ble_eq_true rfl)
def mX6_tool (k0 : Nat) (x1 : Int32) (x2 : Int32) (M : Mem) : Option (Mem × (Int32 ⊕ Nat)) := cap (mX5_ofTool x1 M) (fun r2 => opt r2 (mX6_tool_b21 k0 M) (fun w4 => chk (decide (w4 < 11)) (ite2 (x2 < 0) (mX6_tool_b21 k0 M) (cap (mX5_numberCount w4 M) (fun r8 => ite2 (x2 < r8) (chk (okb (((2 : Int32) * x1) + x2) 10) (some (M, Sum.inl (rd M (5 + 2) ((((2 : Int32) * x1) + x2)).toNatClampNeg)))) (mX6_tool_b21 k0 M))))))
set_option maxHeartbeats 4000000 in
set_option maxRecDepth 100000 in
theorem tX6_tool (l : Launch) (hst : l.stackTraces = false) {G : GT} {kd : Nat → Nat × Nat} {ad : Nat → Nat} {k0 : Nat} (hk0 : kRoot kd k0) {x1 : Int32} {x2 : Int32} {M : Mem} {MO : Mem} {vo : Int32 ⊕ Nat} (hf : mX6_tool k0 x1 x2 M = some (MO, vo)) (n : Nat) : vx_Met l yX6_tool (Cond.code yX6_tool cX6_tool 4 (some .int) :: WA) (rmO 1 1 6) (Pg G kd ad n [.ref (ad k0), .int x1, .int x2] M) (Qx G kd ad n MO (zi vo)) (Xx G kd ad n MO (zi vo)) 1 6 (AS kd ad n) := by
  refine g_bodyX (own := RX6) (by decide) rfl ?_ (Nat.le_of_ble_eq_true rfl)
  intro p e s m args below meth c C htb _ H locs ls hI hl
  obtain ⟨hx, hb, hml, hr, hown, hts, hlk, hK, hap, hsx⟩ := id C
  have hl : lv_has ls 4 [(0, .ref (ad k0)), (1, .int x1), (2, .int x2)] := hl
  unfold mX6_tool at hf
  refine lv_iload_n hx hb (dc tbX6_tool_k 0 rfl) rfl (lv_at hl 1 rfl) ?_
  obtain ⟨r2, q1, hf⟩ := cap_s hf
  refine g_callSr hx hb hml hown hts hK hap hsx hI (tX5_ofTool l  q1 H.size) cs_X5_ofTool q_t6_68 rfl rfl ⟨Nat.le_of_ble_eq_true rfl, Nat.le_of_ble_eq_true rfl⟩ rfl hl.1 rfl (Nat.le_of_ble_eq_true rfl) (dc tbX6_tool_k 1 rfl) ⟨Nat.le_of_ble_eq_true rfl, Nat.le_of_ble_eq_true rfl⟩ (fun H locs hI => ?_)
  rcases opt_s hf with ⟨e12, g13⟩ | ⟨w4, e12, g13⟩
  · subst e12
    have hf := g13
    refine lv_wn ?_
    refine lv_astore_nN (lv' := [(3, .null), (0, .ref (ad k0)), (1, .int x1), (2, .int x2)]) hx hb (dc tbX6_tool_k 2 rfl) rfl hl (by decide) rfl (fun ls hl => ?_)
    refine lv_aload_nN hx hb (dc tbX6_tool_k 3 rfl) rfl (lv_at hl 0 rfl) ?_
    refine lv_ifnullN (tgt := 21) hx hb (dc tbX6_tool_k 4 rfl) rfl ?_
    exact tX6_tool_b21 C hst htb hk0 M hf _ _ _ hI (lv_sub hl [] rfl)
  · subst e12
    obtain ⟨h5, hf⟩ := chk_s g13
    refine lv_ws ?_
    refine lv_astore_n (lv' := [(3, .ref (G.2.2 w4)), (0, .ref (ad k0)), (1, .int x1), (2, .int x2)]) hx hb (dc tbX6_tool_k 2 rfl) rfl hl (by decide) rfl (fun ls hl => ?_)
    refine lv_aload_n hx hb (dc tbX6_tool_k 3 rfl) rfl (lv_at hl 0 rfl) ?_
    refine lv_ifnull hx hb (dc tbX6_tool_k 4 rfl) ?_
    refine lv_iload_n hx hb (dc tbX6_tool_k 5 rfl) rfl (lv_at hl 3 rfl) ?_
    refine lv_if_lt (tgt := 21) hx hb (dc tbX6_tool_k 6 rfl) rfl (fun c6 => ?_) (fun c6 => ?_)
    · have hf := ite_t c6 hf
      exact tX6_tool_b21 C hst htb hk0 M hf _ _ _ hI (lv_sub hl [] rfl)
    · have hf := ite_f c6 hf
      refine lv_iload_n hx hb (dc tbX6_tool_k 7 rfl) rfl (lv_at hl 3 rfl) ?_
      refine lv_aload_n hx hb (dc tbX6_tool_k 8 rfl) rfl (lv_at hl 0 rfl) ?_
      obtain ⟨r8, q7, hf⟩ := cap_s hf
      refine g_callWi hx hb hml hown hts hK hap hsx hI (tX5_numberCount l (of_decide_eq_true h5) q7 H.size) cv_X5_numberCount q_t6_69 rfl rfl ⟨Nat.le_of_ble_eq_true rfl, Nat.le_of_ble_eq_true rfl⟩ (of_decide_eq_true h5) rfl hl.1 rfl (Nat.le_of_ble_eq_true rfl) (dc tbX6_tool_k 9 rfl) ⟨Nat.le_of_ble_eq_true rfl, Nat.le_of_ble_eq_true rfl⟩ (fun H locs hI => ?_)
      refine lv_icmp_lt (tgt := 31) hx hb (dc tbX6_tool_k 10 rfl) rfl (fun c10 => ?_) (fun c10 => ?_)
      · have hf := ite_t c10 hf
        refine lv_aload_n hx hb (dc tbX6_tool_k 16 rfl) rfl (lv_at hl 1 rfl) ?_
        refine gg6_3 hx hb hts hown hK hI hk0.1 q_t2_85 (dc tbX6_tool_k 17 rfl) ?_
        refine gg1_6 hx hb hts hown hK hI hk0.2.2.2.1.1 q_t1_117 (dc tbX6_tool_k 18 rfl) ?_
        refine lv_iconst (v := 2) hx hb (dc tbX6_tool_k 19 rfl) ic_2 ?_
        refine lv_iload_n hx hb (dc tbX6_tool_k 20 rfl) rfl (lv_at hl 2 rfl) ?_
        refine lv_imul hx hb (dc tbX6_tool_k 21 rfl) ?_
        refine lv_iload_n hx hb (dc tbX6_tool_k 22 rfl) rfl (lv_at hl 3 rfl) ?_
        refine lv_iadd hx hb (dc tbX6_tool_k 23 rfl) ?_
        obtain ⟨h11, hf⟩ := chk_s hf
        refine g_iald hx hb hK hI hk0.2.2.2.1.2.2.1 (okb_in h11) (dc tbX6_tool_k 24 rfl) ?_
        cases hf
        refine W.widen (k := 1) (n := 6) (Nat.le_of_ble_eq_true rfl) (Nat.le_of_ble_eq_true rfl) ?_
        exact x_ret (g_iret hx hb hr hlk hI (dc tbX6_tool_k 25 rfl))
      · have hf := ite_f c10 hf
        exact tX6_tool_b21 C hst htb hk0 M hf _ _ _ hI (lv_sub hl [] rfl)
theorem cv_X6_tool : cvF RX6 yX6_tool cX6_tool 4 (some .int) 2 := ⟨q_t6_65, q_t6_66, q_t1_1, q_t6_67, by decide +kernel⟩
def mX6_finishedWidth (k0 : Nat) (M : Mem) : Option (Mem × Int32) := cal (mX2_layFinished 103 5 M) (fun M3 _ => cap (mX2_extent (103 + 1) (rd M3 5 0) M3) (fun r5 => some (M3, r5)))
set_option maxHeartbeats 4000000 in
set_option maxRecDepth 100000 in
theorem tX6_finishedWidth (l : Launch) {G : GT} {kd : Nat → Nat × Nat} {ad : Nat → Nat} {k0 : Nat} (hk0 : kRoot kd k0) {M : Mem} {MO : Mem} {vo : Int32} (hf : mX6_finishedWidth k0 M = some (MO, vo)) (n : Nat) : Met l yX6_finishedWidth (Cond.code yX6_finishedWidth cX6_finishedWidth 1 (some .int) :: WA) (rmO 3 0 0) (Pg G kd ad n [.ref (ad k0)] M) (Qg G kd ad n MO (some (.int vo))) 0 0 (AS kd ad n) := by
  refine g_body (own := RX6) (by decide) rfl ?_ (Nat.le_of_ble_eq_true rfl)
  intro p e s m args below meth c C _ H locs ls hI hl
  obtain ⟨hx, hb, hml, hr, hown, hts, hlk, hK, hap, hsx⟩ := id C
  have hl : lv_has ls 1 [(0, .ref (ad k0))] := hl
  unfold mX6_finishedWidth at hf
  refine lv_aload_n hx hb (dc tbX6_finishedWidth_k 0 rfl) rfl (lv_at hl 0 rfl) ?_
  refine gg6_6 hx hb hts hown hK hI hk0.1 q_t2_88 (dc tbX6_finishedWidth_k 1 rfl) ?_
  refine lv_aload_n hx hb (dc tbX6_finishedWidth_k 2 rfl) rfl (lv_at hl 0 rfl) ?_
  refine gg6_3 hx hb hts hown hK hI hk0.1 q_t2_85 (dc tbX6_finishedWidth_k 3 rfl) ?_
  obtain ⟨M3, r2, q1, hf⟩ := cal_s hf
  refine g_callVv hx hb hml hown hts hK hap hsx hI (tX2_layFinished l hk0.2.2.2.2.2.2.1 hk0.2.2.2.1 q1 H.size) cv_X2_layFinished q_t2_186 rfl rfl ⟨Nat.le_of_ble_eq_true rfl, Nat.le_of_ble_eq_true rfl⟩ hk0.2.2.2.2.2.2.1.1 (by simp) rfl rfl rfl hl.1 rfl (Nat.le_of_ble_eq_true rfl) (dc tbX6_finishedWidth_k 4 rfl) ⟨Nat.le_of_ble_eq_true rfl, Nat.le_of_ble_eq_true rfl⟩ (fun H locs hI => ?_)
  refine lv_aload_n hx hb (dc tbX6_finishedWidth_k 5 rfl) rfl (lv_at hl 0 rfl) ?_
  refine gg6_6 hx hb hts hown hK hI hk0.1 q_t2_88 (dc tbX6_finishedWidth_k 6 rfl) ?_
  refine gg2_0 hx hb hts hown hK hI hk0.2.2.2.2.2.2.1.1 q_t1_201 (dc tbX6_finishedWidth_k 7 rfl) ?_
  refine lv_aload_n hx hb (dc tbX6_finishedWidth_k 8 rfl) rfl (lv_at hl 0 rfl) ?_
  refine gg6_3 hx hb hts hown hK hI hk0.1 q_t2_85 (dc tbX6_finishedWidth_k 9 rfl) ?_
  refine gg1_0 hx hb hts hown hK hI hk0.2.2.2.1.1 q_t1_104 (dc tbX6_finishedWidth_k 10 rfl) ?_
  obtain ⟨r5, q4, hf⟩ := cap_s hf
  refine g_callSi hx hb hml hown hts hK hap hsx hI (tX2_extent l hk0.2.2.2.2.2.2.1.2.1 q4 H.size) cs_X2_extent q_t2_205 rfl rfl ⟨Nat.le_of_ble_eq_true rfl, Nat.le_of_ble_eq_true rfl⟩ rfl hl.1 rfl (Nat.le_of_ble_eq_true rfl) (dc tbX6_finishedWidth_k 11 rfl) ⟨Nat.le_of_ble_eq_true rfl, Nat.le_of_ble_eq_true rfl⟩ (fun H locs hI => ?_)
  cases hf
  exact g_iret hx hb hr hlk hI (dc tbX6_finishedWidth_k 12 rfl)
theorem cv_X6_finishedWidth : cvF RX6 yX6_finishedWidth cX6_finishedWidth 1 (some .int) 0 := ⟨q_t2_183, q_t2_184, q_t1_1, q_t2_185, by decide +kernel⟩
def mX6_finishedHeight (k0 : Nat) (M : Mem) : Option (Mem × Int32) := cal (mX2_layFinished 103 5 M) (fun M3 _ => cap (mX2_extent (103 + 2) (rd M3 5 0) M3) (fun r5 => some (M3, r5)))
set_option maxHeartbeats 4000000 in
set_option maxRecDepth 100000 in
theorem tX6_finishedHeight (l : Launch) {G : GT} {kd : Nat → Nat × Nat} {ad : Nat → Nat} {k0 : Nat} (hk0 : kRoot kd k0) {M : Mem} {MO : Mem} {vo : Int32} (hf : mX6_finishedHeight k0 M = some (MO, vo)) (n : Nat) : Met l yX6_finishedHeight (Cond.code yX6_finishedHeight cX6_finishedHeight 1 (some .int) :: WA) (rmO 3 0 0) (Pg G kd ad n [.ref (ad k0)] M) (Qg G kd ad n MO (some (.int vo))) 0 0 (AS kd ad n) := by
  refine g_body (own := RX6) (by decide) rfl ?_ (Nat.le_of_ble_eq_true rfl)
  intro p e s m args below meth c C _ H locs ls hI hl
  obtain ⟨hx, hb, hml, hr, hown, hts, hlk, hK, hap, hsx⟩ := id C
  have hl : lv_has ls 1 [(0, .ref (ad k0))] := hl
  unfold mX6_finishedHeight at hf
  refine lv_aload_n hx hb (dc tbX6_finishedHeight_k 0 rfl) rfl (lv_at hl 0 rfl) ?_
  refine gg6_6 hx hb hts hown hK hI hk0.1 q_t2_88 (dc tbX6_finishedHeight_k 1 rfl) ?_
  refine lv_aload_n hx hb (dc tbX6_finishedHeight_k 2 rfl) rfl (lv_at hl 0 rfl) ?_
  refine gg6_3 hx hb hts hown hK hI hk0.1 q_t2_85 (dc tbX6_finishedHeight_k 3 rfl) ?_
  obtain ⟨M3, r2, q1, hf⟩ := cal_s hf
  refine g_callVv hx hb hml hown hts hK hap hsx hI (tX2_layFinished l hk0.2.2.2.2.2.2.1 hk0.2.2.2.1 q1 H.size) cv_X2_layFinished q_t2_186 rfl rfl ⟨Nat.le_of_ble_eq_true rfl, Nat.le_of_ble_eq_true rfl⟩ hk0.2.2.2.2.2.2.1.1 (by simp) rfl rfl rfl hl.1 rfl (Nat.le_of_ble_eq_true rfl) (dc tbX6_finishedHeight_k 4 rfl) ⟨Nat.le_of_ble_eq_true rfl, Nat.le_of_ble_eq_true rfl⟩ (fun H locs hI => ?_)
  refine lv_aload_n hx hb (dc tbX6_finishedHeight_k 5 rfl) rfl (lv_at hl 0 rfl) ?_
  refine gg6_6 hx hb hts hown hK hI hk0.1 q_t2_88 (dc tbX6_finishedHeight_k 6 rfl) ?_
  refine gg2_1 hx hb hts hown hK hI hk0.2.2.2.2.2.2.1.1 q_t1_203 (dc tbX6_finishedHeight_k 7 rfl) ?_
  refine lv_aload_n hx hb (dc tbX6_finishedHeight_k 8 rfl) rfl (lv_at hl 0 rfl) ?_
  refine gg6_3 hx hb hts hown hK hI hk0.1 q_t2_85 (dc tbX6_finishedHeight_k 9 rfl) ?_
  refine gg1_0 hx hb hts hown hK hI hk0.2.2.2.1.1 q_t1_104 (dc tbX6_finishedHeight_k 10 rfl) ?_
  obtain ⟨r5, q4, hf⟩ := cap_s hf
  refine g_callSi hx hb hml hown hts hK hap hsx hI (tX2_extent l hk0.2.2.2.2.2.2.1.2.2.1 q4 H.size) cs_X2_extent q_t2_205 rfl rfl ⟨Nat.le_of_ble_eq_true rfl, Nat.le_of_ble_eq_true rfl⟩ rfl hl.1 rfl (Nat.le_of_ble_eq_true rfl) (dc tbX6_finishedHeight_k 11 rfl) ⟨Nat.le_of_ble_eq_true rfl, Nat.le_of_ble_eq_true rfl⟩ (fun H locs hI => ?_)
  cases hf
  exact g_iret hx hb hr hlk hI (dc tbX6_finishedHeight_k 12 rfl)
theorem cv_X6_finishedHeight : cvF RX6 yX6_finishedHeight cX6_finishedHeight 1 (some .int) 0 := ⟨q_t2_209, q_t2_210, q_t1_1, q_t2_211, by decide +kernel⟩
def mX6_isFinishedCrossed (k0 : Nat) (M : Mem) : Option (Mem × Int32) := cal (mX2_layFinished 103 5 M) (fun M3 _ => cap (mX2_crossesItself 103 M3) (fun r5 => chk (isB r5) (some (M3, r5))))
set_option maxHeartbeats 4000000 in
set_option maxRecDepth 100000 in
theorem tX6_isFinishedCrossed (l : Launch) {G : GT} {kd : Nat → Nat × Nat} {ad : Nat → Nat} {k0 : Nat} (hk0 : kRoot kd k0) {M : Mem} {MO : Mem} {vo : Int32} (hf : mX6_isFinishedCrossed k0 M = some (MO, vo)) (n : Nat) : Met l yX6_isFinishedCrossed (Cond.code yX6_isFinishedCrossed cX6_isFinishedCrossed 1 (some .boolean) :: WA) (rmO 3 0 0) (Pg G kd ad n [.ref (ad k0)] M) (Qg G kd ad n MO (some (.int vo))) 0 0 (AS kd ad n) := by
  refine g_body (own := RX6) (by decide) rfl ?_ (Nat.le_of_ble_eq_true rfl)
  intro p e s m args below meth c C _ H locs ls hI hl
  obtain ⟨hx, hb, hml, hr, hown, hts, hlk, hK, hap, hsx⟩ := id C
  have hl : lv_has ls 1 [(0, .ref (ad k0))] := hl
  unfold mX6_isFinishedCrossed at hf
  refine lv_aload_n hx hb (dc tbX6_isFinishedCrossed_k 0 rfl) rfl (lv_at hl 0 rfl) ?_
  refine gg6_6 hx hb hts hown hK hI hk0.1 q_t2_88 (dc tbX6_isFinishedCrossed_k 1 rfl) ?_
  refine lv_aload_n hx hb (dc tbX6_isFinishedCrossed_k 2 rfl) rfl (lv_at hl 0 rfl) ?_
  refine gg6_3 hx hb hts hown hK hI hk0.1 q_t2_85 (dc tbX6_isFinishedCrossed_k 3 rfl) ?_
  obtain ⟨M3, r2, q1, hf⟩ := cal_s hf
  refine g_callVv hx hb hml hown hts hK hap hsx hI (tX2_layFinished l hk0.2.2.2.2.2.2.1 hk0.2.2.2.1 q1 H.size) cv_X2_layFinished q_t2_186 rfl rfl ⟨Nat.le_of_ble_eq_true rfl, Nat.le_of_ble_eq_true rfl⟩ hk0.2.2.2.2.2.2.1.1 (by simp) rfl rfl rfl hl.1 rfl (Nat.le_of_ble_eq_true rfl) (dc tbX6_isFinishedCrossed_k 4 rfl) ⟨Nat.le_of_ble_eq_true rfl, Nat.le_of_ble_eq_true rfl⟩ (fun H locs hI => ?_)
  refine lv_aload_n hx hb (dc tbX6_isFinishedCrossed_k 5 rfl) rfl (lv_at hl 0 rfl) ?_
  refine gg6_6 hx hb hts hown hK hI hk0.1 q_t2_88 (dc tbX6_isFinishedCrossed_k 6 rfl) ?_
  obtain ⟨r5, q4, hf⟩ := cap_s hf
  refine g_callVi hx hb hml hown hts hK hap hsx hI (tX2_crossesItself l hk0.2.2.2.2.2.2.1 q4 H.size) cv_X2_crossesItself q_t2_216 rfl rfl ⟨Nat.le_of_ble_eq_true rfl, Nat.le_of_ble_eq_true rfl⟩ hk0.2.2.2.2.2.2.1.1 (by simp) rfl rfl rfl hl.1 rfl (Nat.le_of_ble_eq_true rfl) (dc tbX6_isFinishedCrossed_k 7 rfl) ⟨Nat.le_of_ble_eq_true rfl, Nat.le_of_ble_eq_true rfl⟩ (fun H locs hI => ?_)
  obtain ⟨h7, hf⟩ := chk_s hf
  cases hf
  exact g_zret hx hb hr hlk hI (isB_n h7) (dc tbX6_isFinishedCrossed_k 8 rfl)
theorem cv_X6_isFinishedCrossed : cvF RX6 yX6_isFinishedCrossed cX6_isFinishedCrossed 1 (some .boolean) 0 := ⟨q_t2_213, q_t2_214, q_t1_1, q_t2_215, by decide +kernel⟩
def mX6_requireChoice_b9 (M : Mem) : Option (Mem × (Unit ⊕ Nat)) := some (M, Sum.inr 0)
set_option maxHeartbeats 4000000 in
set_option maxRecDepth 100000 in
theorem tX6_requireChoice_b9 {p : Program} {l : Launch} {e : Env} {s : State} {m : MethodId} {args : Array Value} {below : List Frame} {meth : Method} {c : Code} {G : GT} {kd : Nat → Nat × Nat} {ad : Nat → Nat} (C : Cx p s m args meth c cX6_requireChoice 2 none RX6 G kd ad) (hst : l.stackTraces = false) (htb : ∀ x ∈ c.exceptionTable.toList, False)  {MO : Mem} {vo : Unit ⊕ Nat}   : ∀  (M : Mem), mX6_requireChoice_b9  M = some (MO, vo) → At p l e (rmO 0 1 6) s m args below meth c 0 0 (XQ G kd ad below args s MO (zv vo) 1 6) G kd ad 2 9 [] [] M := by
  intro M hf H locs ls hI hl
  obtain ⟨hx, hb, hml, hr, hown, hts, hlk, hK, hap, hsx⟩ := id C
  unfold mX6_requireChoice_b9 at hf
  cases hf
  exact x_throw (text := "a parameter is out of range") (e9 := 0) true hx hb hst hml hown hts hlk hsx htb (by decide +kernel) fit_n q_t5_106 q_t1_15 (by decide +kernel) at_iae nb_iae gd_iae_66 rfl hI hl.1 (dc tbX6_requireChoice_k 5 rfl) (dc tbX6_requireChoice_k 6 rfl) (dc tbX6_requireChoice_k 7 rfl) (dc tbX6_requireChoice_k 8 rfl) (dc tbX6_requireChoice_k 9 rfl) (Nat.le_of_ble_eq_true rfl) (Nat.le_of_ble_eq_true rfl) ⟨Nat.le_of_ble_eq_true rfl, Nat.le_of_ble_eq_true rfl⟩ (Nat.le_of_ble_eq_true rfl) (Nat.le_of_ble_eq_true rfl)
def mX6_requireChoice (x0 : Int32) (x1 : Int32) (M : Mem) : Option (Mem × (Unit ⊕ Nat)) := ite2 (x0 < 0) (mX6_requireChoice_b9  M) (ite2 (x0 ≤ x1) (some (M, Sum.inl ())) (mX6_requireChoice_b9  M))
set_option maxHeartbeats 4000000 in
set_option maxRecDepth 100000 in
theorem tX6_requireChoice (l : Launch) (hst : l.stackTraces = false) {G : GT} {kd : Nat → Nat × Nat} {ad : Nat → Nat}  {x0 : Int32} {x1 : Int32} {M : Mem} {MO : Mem} {vo : Unit ⊕ Nat} (hf : mX6_requireChoice  x0 x1 M = some (MO, vo)) (n : Nat) : vx_Met l yX6_requireChoice (Cond.code yX6_requireChoice cX6_requireChoice 2 none :: WA) (rmO 0 1 6) (Pg G kd ad n [.int x0, .int x1] M) (Qx G kd ad n MO (zv vo)) (Xx G kd ad n MO (zv vo)) 1 6 (AS kd ad n) := by
  refine g_bodyX (own := RX6) (by decide) rfl ?_ (Nat.le_of_ble_eq_true rfl)
  intro p e s m args below meth c C htb _ H locs ls hI hl
  obtain ⟨hx, hb, hml, hr, hown, hts, hlk, hK, hap, hsx⟩ := id C
  have hl : lv_has ls 2 [(0, .int x0), (1, .int x1)] := hl
  unfold mX6_requireChoice at hf
  refine lv_iload_n hx hb (dc tbX6_requireChoice_k 0 rfl) rfl (lv_at hl 0 rfl) ?_
  refine lv_if_lt (tgt := 9) hx hb (dc tbX6_requireChoice_k 1 rfl) rfl (fun c1 => ?_) (fun c1 => ?_)
  · have hf := ite_t c1 hf
    exact tX6_requireChoice_b9 C hst htb  M hf _ _ _ hI (lv_sub hl [] rfl)
  · have hf := ite_f c1 hf
    refine lv_iload_n hx hb (dc tbX6_requireChoice_k 2 rfl) rfl (lv_at hl 0 rfl) ?_
    refine lv_iload_n hx hb (dc tbX6_requireChoice_k 3 rfl) rfl (lv_at hl 1 rfl) ?_
    refine lv_icmp_le (tgt := 20) hx hb (dc tbX6_requireChoice_k 4 rfl) rfl (fun c2 => ?_) (fun c2 => ?_)
    · have hf := ite_t c2 hf
      cases hf
      refine W.widen (k := 1) (n := 6) (Nat.le_of_ble_eq_true rfl) (Nat.le_of_ble_eq_true rfl) ?_
      exact x_ret (g_vret hx hb hr hlk hI (dc tbX6_requireChoice_k 10 rfl))
    · have hf := ite_f c2 hf
      exact tX6_requireChoice_b9 C hst htb  M hf _ _ _ hI (lv_sub hl [] rfl)
theorem cs_X6_requireChoice : csF yX6_requireChoice cX6_requireChoice 2 none 2 := ⟨q_t6_79, q_t1_1, q_t6_80, by decide +kernel⟩
def mX6_finishedCorner (k0 : Nat) (x1 : Int32) (x2 : Int32) (M : Mem) : Option (Mem × (Int32 ⊕ Nat)) := calx (mX6_requireLeg k0 x1 M) (fun M3 _ => calx (mX6_requireChoice x2 (1 : Int32) M3) (fun M7 _ => cal (mX2_layFinished 103 5 M7) (fun M11 _ => ite2 (x2 = 0) (chk (okb x1 9) (some (M11, Sum.inl (rd M11 (103 + 1) (x1).toNatClampNeg)))) (chk (okb x1 9) (some (M11, Sum.inl (rd M11 (103 + 2) (x1).toNatClampNeg)))))))
set_option maxHeartbeats 4000000 in
set_option maxRecDepth 100000 in
theorem tX6_finishedCorner (l : Launch) (hst : l.stackTraces = false) {G : GT} {kd : Nat → Nat × Nat} {ad : Nat → Nat} {k0 : Nat} (hk0 : kRoot kd k0) {x1 : Int32} {x2 : Int32} {M : Mem} {MO : Mem} {vo : Int32 ⊕ Nat} (hf : mX6_finishedCorner k0 x1 x2 M = some (MO, vo)) (n : Nat) : vx_Met l yX6_finishedCorner (Cond.code yX6_finishedCorner cX6_finishedCorner 3 (some .int) :: WA) (rmO 3 2 12) (Pg G kd ad n [.ref (ad k0), .int x1, .int x2] M) (Qx G kd ad n MO (zi vo)) (Xx G kd ad n MO (zi vo)) 2 12 (AS kd ad n) := by
  refine g_bodyX (own := RX6) (by decide) rfl ?_ (Nat.le_of_ble_eq_true rfl)
  intro p e s m args below meth c C htb _ H locs ls hI hl
  obtain ⟨hx, hb, hml, hr, hown, hts, hlk, hK, hap, hsx⟩ := id C
  have hl : lv_has ls 3 [(0, .ref (ad k0)), (1, .int x1), (2, .int x2)] := hl
  unfold mX6_finishedCorner at hf
  refine lv_aload_n hx hb (dc tbX6_finishedCorner_k 0 rfl) rfl (lv_at hl 0 rfl) ?_
  refine lv_iload_n hx hb (dc tbX6_finishedCorner_k 1 rfl) rfl (lv_at hl 1 rfl) ?_
  rcases calx_s hf with ⟨M3, r2, q1, hf⟩ | ⟨e4, q1, rfl⟩
  · refine x_callRv (g_runXV hx hb hml hown hts hK hap hsx hI (tX6_requireLeg l hst hk0 q1 H.size) cv_X6_requireLeg q_t6_15 rfl rfl ⟨Nat.le_of_ble_eq_true rfl, Nat.le_of_ble_eq_true rfl⟩ hk0.1 (by simp) rfl rfl rfl hl.1 rfl (Nat.le_of_ble_eq_true rfl) (dc tbX6_finishedCorner_k 2 rfl) ⟨Nat.le_of_ble_eq_true rfl, Nat.le_of_ble_eq_true rfl⟩) hI (fun H locs hI => ?_)
    refine lv_iload_n hx hb (dc tbX6_finishedCorner_k 3 rfl) rfl (lv_at hl 2 rfl) ?_
    refine lv_iconst (v := 1) hx hb (dc tbX6_finishedCorner_k 4 rfl) ic_1 ?_
    rcases calx_s hf with ⟨M7, r6, q5, hf⟩ | ⟨e8, q5, rfl⟩
    · refine x_callRv (g_runXS hx hb hml hown hts hK hap hsx hI (tX6_requireChoice l hst  q5 H.size) cs_X6_requireChoice q_t6_78 rfl rfl ⟨Nat.le_of_ble_eq_true rfl, Nat.le_of_ble_eq_true rfl⟩ rfl hl.1 rfl (Nat.le_of_ble_eq_true rfl) (dc tbX6_finishedCorner_k 5 rfl) ⟨Nat.le_of_ble_eq_true rfl, Nat.le_of_ble_eq_true rfl⟩) hI (fun H locs hI => ?_)
      refine lv_aload_n hx hb (dc tbX6_finishedCorner_k 6 rfl) rfl (lv_at hl 0 rfl) ?_
      refine gg6_6 hx hb hts hown hK hI hk0.1 q_t2_88 (dc tbX6_finishedCorner_k 7 rfl) ?_
      refine lv_aload_n hx hb (dc tbX6_finishedCorner_k 8 rfl) rfl (lv_at hl 0 rfl) ?_
      refine gg6_3 hx hb hts hown hK hI hk0.1 q_t2_85 (dc tbX6_finishedCorner_k 9 rfl) ?_
      obtain ⟨M11, r10, q9, hf⟩ := cal_s hf
      refine g_callVv hx hb hml hown hts hK hap hsx hI (tX2_layFinished l hk0.2.2.2.2.2.2.1 hk0.2.2.2.1 q9 H.size) cv_X2_layFinished q_t2_186 rfl rfl ⟨Nat.le_of_ble_eq_true rfl, Nat.le_of_ble_eq_true rfl⟩ hk0.2.2.2.2.2.2.1.1 (by simp) rfl rfl rfl hl.1 rfl (Nat.le_of_ble_eq_true rfl) (dc tbX6_finishedCorner_k 10 rfl) ⟨Nat.le_of_ble_eq_true rfl, Nat.le_of_ble_eq_true rfl⟩ (fun H locs hI => ?_)
      refine lv_iload_n hx hb (dc tbX6_finishedCorner_k 11 rfl) rfl (lv_at hl 2 rfl) ?_
      refine lv_if_ne (tgt := 37) hx hb (dc tbX6_finishedCorner_k 12 rfl) rfl (fun c12 => ?_) (fun c12 => ?_)
      · have hf := ite_f c12 hf
        refine lv_aload_n hx hb (dc tbX6_finishedCorner_k 19 rfl) rfl (lv_at hl 0 rfl) ?_
        refine gg6_6 hx hb hts hown hK hI hk0.1 q_t2_88 (dc tbX6_finishedCorner_k 20 rfl) ?_
        refine gg2_1 hx hb hts hown hK hI hk0.2.2.2.2.2.2.1.1 q_t1_203 (dc tbX6_finishedCorner_k 21 rfl) ?_
        refine lv_iload_n hx hb (dc tbX6_finishedCorner_k 22 rfl) rfl (lv_at hl 1 rfl) ?_
        obtain ⟨h13, hf⟩ := chk_s hf
        refine g_iald hx hb hK hI hk0.2.2.2.2.2.2.1.2.2.1 (okb_in h13) (dc tbX6_finishedCorner_k 23 rfl) ?_
        cases hf
        exact x_ret (g_iret hx hb hr hlk hI (dc tbX6_finishedCorner_k 24 rfl))
      · have hf := ite_t c12 hf
        refine lv_aload_n hx hb (dc tbX6_finishedCorner_k 13 rfl) rfl (lv_at hl 0 rfl) ?_
        refine gg6_6 hx hb hts hown hK hI hk0.1 q_t2_88 (dc tbX6_finishedCorner_k 14 rfl) ?_
        refine gg2_0 hx hb hts hown hK hI hk0.2.2.2.2.2.2.1.1 q_t1_201 (dc tbX6_finishedCorner_k 15 rfl) ?_
        refine lv_iload_n hx hb (dc tbX6_finishedCorner_k 16 rfl) rfl (lv_at hl 1 rfl) ?_
        obtain ⟨h14, hf⟩ := chk_s hf
        refine g_iald hx hb hK hI hk0.2.2.2.2.2.2.1.2.1 (okb_in h14) (dc tbX6_finishedCorner_k 17 rfl) ?_
        refine lv_goto (tgt := 46) hx hb (dc tbX6_finishedCorner_k 18 rfl) rfl ?_
        cases hf
        exact x_ret (g_iret hx hb hr hlk hI (dc tbX6_finishedCorner_k 24 rfl))
    · exact x_callT (g_runXS hx hb hml hown hts hK hap hsx hI (tX6_requireChoice l hst  q5 H.size) cs_X6_requireChoice q_t6_78 rfl rfl ⟨Nat.le_of_ble_eq_true rfl, Nat.le_of_ble_eq_true rfl⟩ rfl hl.1 rfl (Nat.le_of_ble_eq_true rfl) (dc tbX6_finishedCorner_k 5 rfl) ⟨Nat.le_of_ble_eq_true rfl, Nat.le_of_ble_eq_true rfl⟩) hI htb hlk (Nat.le_of_ble_eq_true rfl) (Nat.le_of_ble_eq_true rfl)
  · exact x_callT (g_runXV hx hb hml hown hts hK hap hsx hI (tX6_requireLeg l hst hk0 q1 H.size) cv_X6_requireLeg q_t6_15 rfl rfl ⟨Nat.le_of_ble_eq_true rfl, Nat.le_of_ble_eq_true rfl⟩ hk0.1 (by simp) rfl rfl rfl hl.1 rfl (Nat.le_of_ble_eq_true rfl) (dc tbX6_finishedCorner_k 2 rfl) ⟨Nat.le_of_ble_eq_true rfl, Nat.le_of_ble_eq_true rfl⟩) hI htb hlk (Nat.le_of_ble_eq_true rfl) (Nat.le_of_ble_eq_true rfl)
theorem cv_X6_finishedCorner : cvF RX6 yX6_finishedCorner cX6_finishedCorner 3 (some .int) 2 := ⟨q_t6_75, q_t6_76, q_t1_1, q_t6_77, by decide +kernel⟩
def mX6_isSymmetric (k0 : Nat) (M : Mem) : Option Int32 := cap (mX1_isSameFromOtherEnd 5 M) (fun r2 => chk (isB r2) (some r2))
set_option maxHeartbeats 4000000 in
set_option maxRecDepth 100000 in
theorem tX6_isSymmetric (l : Launch) {G : GT} {kd : Nat → Nat × Nat} {ad : Nat → Nat} {k0 : Nat} (hk0 : kRoot kd k0) {M : Mem} {vo : Int32} (hf : mX6_isSymmetric k0 M = some vo) (n : Nat) : Met l yX6_isSymmetric (Cond.code yX6_isSymmetric cX6_isSymmetric 1 (some .boolean) :: WA) (rmO 2 0 0) (Pg G kd ad n [.ref (ad k0)] M) (Qg G kd ad n M (some (.int vo))) 0 0 (AS kd ad n) := by
  refine g_body (own := RX6) (by decide) rfl ?_ (Nat.le_of_ble_eq_true rfl)
  intro p e s m args below meth c C _ H locs ls hI hl
  obtain ⟨hx, hb, hml, hr, hown, hts, hlk, hK, hap, hsx⟩ := id C
  have hl : lv_has ls 1 [(0, .ref (ad k0))] := hl
  unfold mX6_isSymmetric at hf
  refine lv_aload_n hx hb (dc tbX6_isSymmetric_k 0 rfl) rfl (lv_at hl 0 rfl) ?_
  refine gg6_3 hx hb hts hown hK hI hk0.1 q_t2_85 (dc tbX6_isSymmetric_k 1 rfl) ?_
  obtain ⟨r2, q1, hf⟩ := cap_s hf
  refine g_callVi hx hb hml hown hts hK hap hsx hI (tX1_isSameFromOtherEnd l hk0.2.2.2.1 q1 H.size) cv_X1_isSameFromOtherEnd q_t2_228 rfl rfl ⟨Nat.le_of_ble_eq_true rfl, Nat.le_of_ble_eq_true rfl⟩ hk0.2.2.2.1.1 (by simp) rfl rfl rfl hl.1 rfl (Nat.le_of_ble_eq_true rfl) (dc tbX6_isSymmetric_k 2 rfl) ⟨Nat.le_of_ble_eq_true rfl, Nat.le_of_ble_eq_true rfl⟩ (fun H locs hI => ?_)
  obtain ⟨h4, hf⟩ := chk_s hf
  cases hf
  exact g_zret hx hb hr hlk hI (isB_n h4) (dc tbX6_isSymmetric_k 3 rfl)
theorem cv_X6_isSymmetric : cvF RX6 yX6_isSymmetric cX6_isSymmetric 1 (some .boolean) 0 := ⟨q_t2_225, q_t2_226, q_t1_1, q_t2_227, by decide +kernel⟩
def mX6_longestLeg_b49 (k0 : Nat) (M : Mem) (ih4 : Int32 → Int32 → Option Int32) (x1 : Int32) (x2 : Int32) : Option Int32 := bnd (x2 + (1 : Int32)) (fun x2_49 => ih4 x1 x2_49)
set_option maxHeartbeats 4000000 in
set_option maxRecDepth 100000 in
theorem tX6_longestLeg_b49 {p : Program} {l : Launch} {e : Env} {s : State} {m : MethodId} {args : Array Value} {below : List Frame} {meth : Method} {c : Code} {G : GT} {kd : Nat → Nat × Nat} {ad : Nat → Nat} (C : Cx p s m args meth c cX6_longestLeg 3 (some .int) RX6 G kd ad) {k0 : Nat} (hk0 : kRoot kd k0) {M : Mem} {vo : Int32} {ih4 : Int32 → Int32 → Option Int32} (hih4 : ∀ (x1 : Int32) (x2 : Int32), ih4 x1 x2 = some vo → At p l e (rmO 0 0 0) s m args below meth c 0 0 (MQ below (Qg G kd ad s.heap.size M (some (.int vo))) args s 0 0 (AS kd ad s.heap.size)) G kd ad 3 4 [(0, .ref (ad k0)), (1, .int x1), (2, .int x2)] [] M) : ∀ (x1 : Int32) (x2 : Int32), mX6_longestLeg_b49 k0 M ih4 x1 x2 = some vo → At p l e (rmO 0 0 0) s m args below meth c 0 0 (MQ below (Qg G kd ad s.heap.size M (some (.int vo))) args s 0 0 (AS kd ad s.heap.size)) G kd ad 3 49 [(0, .ref (ad k0)), (1, .int x1), (2, .int x2)] [] M := by
  intro x1 x2 hf H locs ls hI hl
  obtain ⟨hx, hb, hml, hr, hown, hts, hlk, hK, hap, hsx⟩ := id C
  unfold mX6_longestLeg_b49 at hf
  obtain ⟨x2_49, e4, hf⟩ := bnd_s hf
  refine lv_iinc (v := x2_49) (lv' := [(2, .int x2_49), (0, .ref (ad k0)), (1, .int x1)]) hx hb (dc tbX6_longestLeg_k 28 rfl) hl (k := 2) rfl (ii_e e4 ic_1) (by decide) rfl (fun ls hl => ?_)
  refine lv_goto (tgt := 4) hx hb (dc tbX6_longestLeg_k 29 rfl) rfl ?_
  exact hih4 x1 x2_49 hf _ _ _ hI (lv_sub hl [1, 2, 0] rfl)
def mX6_longestLeg_b47 (k0 : Nat) (M : Mem) (ih4 : Int32 → Int32 → Option Int32) (x2 : Int32) : Option Int32 := mX6_longestLeg_b49 k0 M ih4 x2 x2
set_option maxHeartbeats 4000000 in
set_option maxRecDepth 100000 in
theorem tX6_longestLeg_b47 {p : Program} {l : Launch} {e : Env} {s : State} {m : MethodId} {args : Array Value} {below : List Frame} {meth : Method} {c : Code} {G : GT} {kd : Nat → Nat × Nat} {ad : Nat → Nat} (C : Cx p s m args meth c cX6_longestLeg 3 (some .int) RX6 G kd ad) {k0 : Nat} (hk0 : kRoot kd k0) {M : Mem} {vo : Int32} {ih4 : Int32 → Int32 → Option Int32} (hih4 : ∀ (x1 : Int32) (x2 : Int32), ih4 x1 x2 = some vo → At p l e (rmO 0 0 0) s m args below meth c 0 0 (MQ below (Qg G kd ad s.heap.size M (some (.int vo))) args s 0 0 (AS kd ad s.heap.size)) G kd ad 3 4 [(0, .ref (ad k0)), (1, .int x1), (2, .int x2)] [] M) : ∀ (x2 : Int32), mX6_longestLeg_b47 k0 M ih4 x2 = some vo → At p l e (rmO 0 0 0) s m args below meth c 0 0 (MQ below (Qg G kd ad s.heap.size M (some (.int vo))) args s 0 0 (AS kd ad s.heap.size)) G kd ad 3 47 [(0, .ref (ad k0)), (2, .int x2)] [] M := by
  intro x2 hf H locs ls hI hl
  obtain ⟨hx, hb, hml, hr, hown, hts, hlk, hK, hap, hsx⟩ := id C
  unfold mX6_longestLeg_b47 at hf
  refine lv_iload_n hx hb (dc tbX6_longestLeg_k 26 rfl) rfl (lv_at hl 1 rfl) ?_
  refine lv_istore_n (lv' := [(1, .int x2), (0, .ref (ad k0)), (2, .int x2)]) hx hb (dc tbX6_longestLeg_k 27 rfl) rfl hl (by decide) rfl (fun ls hl => ?_)
  exact tX6_longestLeg_b49 C hk0 hih4 x2 x2 hf _ _ _ hI (lv_sub hl [1, 0, 2] rfl)
def mX6_longestLeg_b4 (k0 : Nat) (M : Mem) (ih4 : Int32 → Int32 → Option Int32) (x1 : Int32) (x2 : Int32) : Option Int32 := ite2 ((rd M 5 0) ≤ x2) (some x1) (ite2 ((9 : Int32) ≤ x2) (some x1) (ite2 (x1 = (-1 : Int32)) (mX6_longestLeg_b47 k0 M ih4 x2) (chk (okb x2 9) (chk (okb x1 9) (ite2 ((rd M (5 + 1) (x2).toNatClampNeg) ≤ (rd M (5 + 1) (x1).toNatClampNeg)) (mX6_longestLeg_b49 k0 M ih4 x1 x2) (mX6_longestLeg_b47 k0 M ih4 x2))))))
set_option maxHeartbeats 4000000 in
set_option maxRecDepth 100000 in
theorem tX6_longestLeg_b4 {p : Program} {l : Launch} {e : Env} {s : State} {m : MethodId} {args : Array Value} {below : List Frame} {meth : Method} {c : Code} {G : GT} {kd : Nat → Nat × Nat} {ad : Nat → Nat} (C : Cx p s m args meth c cX6_longestLeg 3 (some .int) RX6 G kd ad) {k0 : Nat} (hk0 : kRoot kd k0) {M : Mem} {vo : Int32} {ih4 : Int32 → Int32 → Option Int32} (hih4 : ∀ (x1 : Int32) (x2 : Int32), ih4 x1 x2 = some vo → At p l e (rmO 0 0 0) s m args below meth c 0 0 (MQ below (Qg G kd ad s.heap.size M (some (.int vo))) args s 0 0 (AS kd ad s.heap.size)) G kd ad 3 4 [(0, .ref (ad k0)), (1, .int x1), (2, .int x2)] [] M) : ∀ (x1 : Int32) (x2 : Int32), mX6_longestLeg_b4 k0 M ih4 x1 x2 = some vo → At p l e (rmO 0 0 0) s m args below meth c 0 0 (MQ below (Qg G kd ad s.heap.size M (some (.int vo))) args s 0 0 (AS kd ad s.heap.size)) G kd ad 3 4 [(0, .ref (ad k0)), (1, .int x1), (2, .int x2)] [] M := by
  intro x1 x2 hf H locs ls hI hl
  obtain ⟨hx, hb, hml, hr, hown, hts, hlk, hK, hap, hsx⟩ := id C
  unfold mX6_longestLeg_b4 at hf
  refine lv_iload_n hx hb (dc tbX6_longestLeg_k 4 rfl) rfl (lv_at hl 2 rfl) ?_
  refine lv_aload_n hx hb (dc tbX6_longestLeg_k 5 rfl) rfl (lv_at hl 0 rfl) ?_
  refine gg6_3 hx hb hts hown hK hI hk0.1 q_t2_85 (dc tbX6_longestLeg_k 6 rfl) ?_
  refine gg1_0 hx hb hts hown hK hI hk0.2.2.2.1.1 q_t1_104 (dc tbX6_longestLeg_k 7 rfl) ?_
  refine lv_icmp_ge (tgt := 55) hx hb (dc tbX6_longestLeg_k 8 rfl) rfl (fun c1 => ?_) (fun c1 => ?_)
  · have hf := ite_t c1 hf
    refine lv_iload_n hx hb (dc tbX6_longestLeg_k 30 rfl) rfl (lv_at hl 1 rfl) ?_
    cases hf
    exact g_iret hx hb hr hlk hI (dc tbX6_longestLeg_k 31 rfl)
  · have hf := ite_f c1 hf
    refine lv_iload_n hx hb (dc tbX6_longestLeg_k 9 rfl) rfl (lv_at hl 2 rfl) ?_
    refine lv_bipush (v := 9) hx hb (dc tbX6_longestLeg_k 10 rfl) bp_9 ?_
    refine lv_icmp_ge (tgt := 55) hx hb (dc tbX6_longestLeg_k 11 rfl) rfl (fun c2 => ?_) (fun c2 => ?_)
    · have hf := ite_t c2 hf
      refine lv_iload_n hx hb (dc tbX6_longestLeg_k 30 rfl) rfl (lv_at hl 1 rfl) ?_
      cases hf
      exact g_iret hx hb hr hlk hI (dc tbX6_longestLeg_k 31 rfl)
    · have hf := ite_f c2 hf
      refine lv_iload_n hx hb (dc tbX6_longestLeg_k 12 rfl) rfl (lv_at hl 1 rfl) ?_
      refine lv_iconst (v := -1) hx hb (dc tbX6_longestLeg_k 13 rfl) ic_m1 ?_
      refine lv_icmp_eq (tgt := 47) hx hb (dc tbX6_longestLeg_k 14 rfl) rfl (fun c3 => ?_) (fun c3 => ?_)
      · have hf := ite_t c3 hf
        exact tX6_longestLeg_b47 C hk0 hih4 x2 hf _ _ _ hI (lv_sub hl [0, 2] rfl)
      · have hf := ite_f c3 hf
        refine lv_aload_n hx hb (dc tbX6_longestLeg_k 15 rfl) rfl (lv_at hl 0 rfl) ?_
        refine gg6_3 hx hb hts hown hK hI hk0.1 q_t2_85 (dc tbX6_longestLeg_k 16 rfl) ?_
        refine gg1_1 hx hb hts hown hK hI hk0.2.2.2.1.1 q_t1_107 (dc tbX6_longestLeg_k 17 rfl) ?_
        refine lv_iload_n hx hb (dc tbX6_longestLeg_k 18 rfl) rfl (lv_at hl 2 rfl) ?_
        obtain ⟨h5, hf⟩ := chk_s hf
        refine g_iald hx hb hK hI hk0.2.2.2.1.2.1 (okb_in h5) (dc tbX6_longestLeg_k 19 rfl) ?_
        refine lv_aload_n hx hb (dc tbX6_longestLeg_k 20 rfl) rfl (lv_at hl 0 rfl) ?_
        refine gg6_3 hx hb hts hown hK hI hk0.1 q_t2_85 (dc tbX6_longestLeg_k 21 rfl) ?_
        refine gg1_1 hx hb hts hown hK hI hk0.2.2.2.1.1 q_t1_107 (dc tbX6_longestLeg_k 22 rfl) ?_
        refine lv_iload_n hx hb (dc tbX6_longestLeg_k 23 rfl) rfl (lv_at hl 1 rfl) ?_
        obtain ⟨h6, hf⟩ := chk_s hf
        refine g_iald hx hb hK hI hk0.2.2.2.1.2.1 (okb_in h6) (dc tbX6_longestLeg_k 24 rfl) ?_
        refine lv_icmp_le (tgt := 49) hx hb (dc tbX6_longestLeg_k 25 rfl) rfl (fun c7 => ?_) (fun c7 => ?_)
        · have hf := ite_t c7 hf
          exact tX6_longestLeg_b49 C hk0 hih4 x1 x2 hf _ _ _ hI (lv_sub hl [0, 1, 2] rfl)
        · have hf := ite_f c7 hf
          exact tX6_longestLeg_b47 C hk0 hih4 x2 hf _ _ _ hI (lv_sub hl [0, 2] rfl)
def mX6_longestLeg_l4 (k0 : Nat) (M : Mem) : Nat → Int32 → Int32 → Option Int32
  | 0 => fun _ _ => none
  | n + 1 => mX6_longestLeg_b4 k0 M (mX6_longestLeg_l4 k0 M n)
theorem tX6_longestLeg_l4 {p : Program} {l : Launch} {e : Env} {s : State} {m : MethodId} {args : Array Value} {below : List Frame} {meth : Method} {c : Code} {G : GT} {kd : Nat → Nat × Nat} {ad : Nat → Nat} (C : Cx p s m args meth c cX6_longestLeg 3 (some .int) RX6 G kd ad) {k0 : Nat} (hk0 : kRoot kd k0) {M : Mem} {vo : Int32}   : ∀ (fuel : Nat) (x1 : Int32) (x2 : Int32), mX6_longestLeg_l4 k0 M fuel x1 x2 = some vo → At p l e (rmO 0 0 0) s m args below meth c 0 0 (MQ below (Qg G kd ad s.heap.size M (some (.int vo))) args s 0 0 (AS kd ad s.heap.size)) G kd ad 3 4 [(0, .ref (ad k0)), (1, .int x1), (2, .int x2)] [] M := by
  intro fuel
  induction fuel with
  | zero => intro x1 x2 hf; cases hf
  | succ n IH => exact tX6_longestLeg_b4 C hk0 IH
def mX6_longestLeg (k0 : Nat) (M : Mem) : Option Int32 := mX6_longestLeg_l4 k0 M 5000 (-1 : Int32) (0 : Int32)
set_option maxHeartbeats 4000000 in
set_option maxRecDepth 100000 in
theorem tX6_longestLeg (l : Launch) {G : GT} {kd : Nat → Nat × Nat} {ad : Nat → Nat} {k0 : Nat} (hk0 : kRoot kd k0) {M : Mem} {vo : Int32} (hf : mX6_longestLeg k0 M = some vo) (n : Nat) : Met l yX6_longestLeg (Cond.code yX6_longestLeg cX6_longestLeg 3 (some .int) :: WA) (rmO 0 0 0) (Pg G kd ad n [.ref (ad k0)] M) (Qg G kd ad n M (some (.int vo))) 0 0 (AS kd ad n) := by
  refine g_body (own := RX6) (by decide) rfl ?_ (Nat.le_of_ble_eq_true rfl)
  intro p e s m args below meth c C _ H locs ls hI hl
  obtain ⟨hx, hb, hml, hr, hown, hts, hlk, hK, hap, hsx⟩ := id C
  have hl : lv_has ls 3 [(0, .ref (ad k0))] := hl
  unfold mX6_longestLeg at hf
  refine lv_iconst (v := -1) hx hb (dc tbX6_longestLeg_k 0 rfl) ic_m1 ?_
  refine lv_istore_n (lv' := [(1, .int (-1 : Int32)), (0, .ref (ad k0))]) hx hb (dc tbX6_longestLeg_k 1 rfl) rfl hl (by decide) rfl (fun ls hl => ?_)
  refine lv_iconst (v := 0) hx hb (dc tbX6_longestLeg_k 2 rfl) ic_0 ?_
  refine lv_istore_n (lv' := [(2, .int (0 : Int32)), (1, .int (-1 : Int32)), (0, .ref (ad k0))]) hx hb (dc tbX6_longestLeg_k 3 rfl) rfl hl (by decide) rfl (fun ls hl => ?_)
  exact tX6_longestLeg_l4 C hk0 5000 (-1 : Int32) (0 : Int32) hf _ _ _ hI (lv_sub hl [2, 1, 0] rfl)
theorem cv_X6_longestLeg : cvF RX6 yX6_longestLeg cX6_longestLeg 3 (some .int) 0 := ⟨q_t2_237, q_t2_238, q_t1_1, q_t2_239, by decide +kernel⟩
def mX6_made (k0 : Nat) (M : Mem) : Option Int32 := some (rd M 5 13)
set_option maxHeartbeats 4000000 in
set_option maxRecDepth 100000 in
theorem tX6_made (l : Launch) {G : GT} {kd : Nat → Nat × Nat} {ad : Nat → Nat} {k0 : Nat} (hk0 : kRoot kd k0) {M : Mem} {vo : Int32} (hf : mX6_made k0 M = some vo) (n : Nat) : Met l yX6_made (Cond.code yX6_made cX6_made 1 (some .int) :: WA) (rmO 0 0 0) (Pg G kd ad n [.ref (ad k0)] M) (Qg G kd ad n M (some (.int vo))) 0 0 (AS kd ad n) := by
  refine g_body (own := RX6) (by decide) rfl ?_ (Nat.le_of_ble_eq_true rfl)
  intro p e s m args below meth c C _ H locs ls hI hl
  obtain ⟨hx, hb, hml, hr, hown, hts, hlk, hK, hap, hsx⟩ := id C
  have hl : lv_has ls 1 [(0, .ref (ad k0))] := hl
  unfold mX6_made at hf
  refine lv_aload_n hx hb (dc tbX6_made_k 0 rfl) rfl (lv_at hl 0 rfl) ?_
  refine gg6_3 hx hb hts hown hK hI hk0.1 q_t2_85 (dc tbX6_made_k 1 rfl) ?_
  refine gg1_13 hx hb hts hown hK hI hk0.2.2.2.1.1 q_t1_128 (dc tbX6_made_k 2 rfl) ?_
  cases hf
  exact g_iret hx hb hr hlk hI (dc tbX6_made_k 3 rfl)
theorem cv_X6_made : cvF RX6 yX6_made cX6_made 1 (some .int) 0 := ⟨q_t3_1, q_t3_2, q_t1_1, q_t3_3, by decide +kernel⟩
def mX6_steps (k0 : Nat) (M : Mem) : Option Int32 := some (rd M 5 14)
set_option maxHeartbeats 4000000 in
set_option maxRecDepth 100000 in
theorem tX6_steps (l : Launch) {G : GT} {kd : Nat → Nat × Nat} {ad : Nat → Nat} {k0 : Nat} (hk0 : kRoot kd k0) {M : Mem} {vo : Int32} (hf : mX6_steps k0 M = some vo) (n : Nat) : Met l yX6_steps (Cond.code yX6_steps cX6_steps 1 (some .int) :: WA) (rmO 0 0 0) (Pg G kd ad n [.ref (ad k0)] M) (Qg G kd ad n M (some (.int vo))) 0 0 (AS kd ad n) := by
  refine g_body (own := RX6) (by decide) rfl ?_ (Nat.le_of_ble_eq_true rfl)
  intro p e s m args below meth c C _ H locs ls hI hl
  obtain ⟨hx, hb, hml, hr, hown, hts, hlk, hK, hap, hsx⟩ := id C
  have hl : lv_has ls 1 [(0, .ref (ad k0))] := hl
  unfold mX6_steps at hf
  refine lv_aload_n hx hb (dc tbX6_steps_k 0 rfl) rfl (lv_at hl 0 rfl) ?_
  refine gg6_3 hx hb hts hown hK hI hk0.1 q_t2_85 (dc tbX6_steps_k 1 rfl) ?_
  refine gg1_14 hx hb hts hown hK hI hk0.2.2.2.1.1 q_t1_130 (dc tbX6_steps_k 2 rfl) ?_
  cases hf
  exact g_iret hx hb hr hlk hI (dc tbX6_steps_k 3 rfl)
theorem cv_X6_steps : cvF RX6 yX6_steps cX6_steps 1 (some .int) 0 := ⟨q_t3_5, q_t3_6, q_t1_1, q_t3_7, by decide +kernel⟩
def mX6_step_b21 (k0 : Nat) (M : Mem) : Option (Mem × (Int32 ⊕ Nat)) := some (M, Sum.inr 1)
set_option maxHeartbeats 4000000 in
set_option maxRecDepth 100000 in
theorem tX6_step_b21 {p : Program} {l : Launch} {e : Env} {s : State} {m : MethodId} {args : Array Value} {below : List Frame} {meth : Method} {c : Code} {G : GT} {kd : Nat → Nat × Nat} {ad : Nat → Nat} (C : Cx p s m args meth c cX6_step 3 (some .int) RX6 G kd ad) (hst : l.stackTraces = false) (htb : ∀ x ∈ c.exceptionTable.toList, False) {k0 : Nat} (hk0 : kRoot kd k0) {MO : Mem} {vo : Int32 ⊕ Nat}   : ∀  (M : Mem), mX6_step_b21 k0 M = some (MO, vo) → At p l e (rmO 1 2 12) s m args below meth c 0 0 (XQ G kd ad below args s MO (zi vo) 2 12) G kd ad 3 21 [] [] M := by
  intro M hf H locs ls hI hl
  obtain ⟨hx, hb, hml, hr, hown, hts, hlk, hK, hap, hsx⟩ := id C
  unfold mX6_step_b21 at hf
  cases hf
  exact x_throw (text := "there is no such step") (e9 := 1) false hx hb hst hml hown hts hlk hsx htb (by decide +kernel) fit_n q_t6_19 q_t1_21 (by decide +kernel) at_ioo nb_ioo gd_ioo_176 rfl hI hl.1 (dc tbX6_step_0_k 10 rfl) (dc tbX6_step_0_k 11 rfl) (dc tbX6_step_0_k 12 rfl) (dc tbX6_step_0_k 13 rfl) (dc tbX6_step_0_k 14 rfl) (Nat.le_of_ble_eq_true rfl) (Nat.le_of_ble_eq_true rfl) ⟨Nat.le_of_ble_eq_true rfl, Nat.le_of_ble_eq_true rfl⟩ (Nat.le_of_ble_eq_true rfl) (Nat.le_of_ble_eq_true rfl)
def mX6_step (k0 : Nat) (x1 : Int32) (x2 : Int32) (M : Mem) : Option (Mem × (Int32 ⊕ Nat)) := ite2 (x1 < 0) (mX6_step_b21 k0 M) (ite2 ((rd M 5 14) ≤ x1) (mX6_step_b21 k0 M) (ite2 (x1 < (8 : Int32)) (calx (mX6_requireChoice x2 (3 : Int32) M) (fun M6 _ => ite2 (x2 = (0 : Int32)) (chk (okb x1 8) (some (M6, Sum.inl ((rd M6 (5 + 5) (x1).toNatClampNeg) >>> ((1 : Int32) &&& 31))))) (ite2 (x2 = (1 : Int32)) (chk (okb x1 8) (some (M6, Sum.inl ((rd M6 (5 + 5) (x1).toNatClampNeg) &&& (1 : Int32))))) (ite2 (x2 = (2 : Int32)) (chk (okb x1 8) (some (M6, Sum.inl (rd M6 (5 + 6) (x1).toNatClampNeg)))) (chk (okb x1 8) (some (M6, Sum.inl (rd M6 (5 + 7) (x1).toNatClampNeg)))))))) (mX6_step_b21 k0 M)))
set_option maxHeartbeats 4000000 in
set_option maxRecDepth 100000 in
theorem tX6_step (l : Launch) (hst : l.stackTraces = false) {G : GT} {kd : Nat → Nat × Nat} {ad : Nat → Nat} {k0 : Nat} (hk0 : kRoot kd k0) {x1 : Int32} {x2 : Int32} {M : Mem} {MO : Mem} {vo : Int32 ⊕ Nat} (hf : mX6_step k0 x1 x2 M = some (MO, vo)) (n : Nat) : vx_Met l yX6_step (Cond.code yX6_step cX6_step 3 (some .int) :: WA) (rmO 1 2 12) (Pg G kd ad n [.ref (ad k0), .int x1, .int x2] M) (Qx G kd ad n MO (zi vo)) (Xx G kd ad n MO (zi vo)) 2 12 (AS kd ad n) := by
  refine g_bodyX (own := RX6) (by decide) rfl ?_ (Nat.le_of_ble_eq_true rfl)
  intro p e s m args below meth c C htb _ H locs ls hI hl
  obtain ⟨hx, hb, hml, hr, hown, hts, hlk, hK, hap, hsx⟩ := id C
  have hl : lv_has ls 3 [(0, .ref (ad k0)), (1, .int x1), (2, .int x2)] := hl
  unfold mX6_step at hf
  refine lv_iload_n hx hb (dc tbX6_step_0_k 0 rfl) rfl (lv_at hl 1 rfl) ?_
  refine lv_if_lt (tgt := 21) hx hb (dc tbX6_step_0_k 1 rfl) rfl (fun c1 => ?_) (fun c1 => ?_)
  · have hf := ite_t c1 hf
    exact tX6_step_b21 C hst htb hk0 M hf _ _ _ hI (lv_sub hl [] rfl)
  · have hf := ite_f c1 hf
    refine lv_iload_n hx hb (dc tbX6_step_0_k 2 rfl) rfl (lv_at hl 1 rfl) ?_
    refine lv_aload_n hx hb (dc tbX6_step_0_k 3 rfl) rfl (lv_at hl 0 rfl) ?_
    refine gg6_3 hx hb hts hown hK hI hk0.1 q_t2_85 (dc tbX6_step_0_k 4 rfl) ?_
    refine gg1_14 hx hb hts hown hK hI hk0.2.2.2.1.1 q_t1_130 (dc tbX6_step_0_k 5 rfl) ?_
    refine lv_icmp_ge (tgt := 21) hx hb (dc tbX6_step_0_k 6 rfl) rfl (fun c2 => ?_) (fun c2 => ?_)
    · have hf := ite_t c2 hf
      exact tX6_step_b21 C hst htb hk0 M hf _ _ _ hI (lv_sub hl [] rfl)
    · have hf := ite_f c2 hf
      refine lv_iload_n hx hb (dc tbX6_step_0_k 7 rfl) rfl (lv_at hl 1 rfl) ?_
      refine lv_bipush (v := 8) hx hb (dc tbX6_step_0_k 8 rfl) bp_8 ?_
      refine lv_icmp_lt (tgt := 31) hx hb (dc tbX6_step_0_k 9 rfl) rfl (fun c3 => ?_) (fun c3 => ?_)
      · have hf := ite_t c3 hf
        refine lv_iload_n hx hb (dc tbX6_step_0_k 15 rfl) rfl (lv_at hl 2 rfl) ?_
        refine lv_iconst (v := 3) hx hb (dc tbX6_step_0_k 16 rfl) ic_3 ?_
        rcases calx_s hf with ⟨M6, r5, q4, hf⟩ | ⟨e7, q4, rfl⟩
        · refine x_callRv (g_runXS hx hb hml hown hts hK hap hsx hI (tX6_requireChoice l hst  q4 H.size) cs_X6_requireChoice q_t6_78 rfl rfl ⟨Nat.le_of_ble_eq_true rfl, Nat.le_of_ble_eq_true rfl⟩ rfl hl.1 rfl (Nat.le_of_ble_eq_true rfl) (dc tbX6_step_0_k 17 rfl) ⟨Nat.le_of_ble_eq_true rfl, Nat.le_of_ble_eq_true rfl⟩) hI (fun H locs hI => ?_)
          refine lv_iload_n hx hb (dc tbX6_step_0_k 18 rfl) rfl (lv_at hl 2 rfl) ?_
          refine by_c (c := x2 = (0 : Int32)) (fun c8 => ?_) (fun c8 => ?_)
          · have hf := ite_t c8 hf
            refine lv_et c8 ?_
            refine lv_tableIn (tgt := 64) hx hb dX6_step_37 (by decide) (by decide) rfl rfl ?_
            refine lv_aload_n hx hb (dc tbX6_step_0_k 19 rfl) rfl (lv_at hl 0 rfl) ?_
            refine gg6_3 hx hb hts hown hK hI hk0.1 q_t2_85 (dc tbX6_step_0_k 20 rfl) ?_
            refine gg1_15 hx hb hts hown hK hI hk0.2.2.2.1.1 q_t1_132 (dc tbX6_step_0_k 21 rfl) ?_
            refine lv_iload_n hx hb (dc tbX6_step_0_k 22 rfl) rfl (lv_at hl 1 rfl) ?_
            obtain ⟨h9, hf⟩ := chk_s hf
            refine g_iald hx hb hK hI hk0.2.2.2.1.2.2.2.2.2.1 (okb_in h9) (dc tbX6_step_0_k 23 rfl) ?_
            refine lv_iconst (v := 1) hx hb (dc tbX6_step_0_k 24 rfl) ic_1 ?_
            refine lv_ishr hx hb (dc tbX6_step_0_k 25 rfl) ?_
            cases hf
            refine W.widen (k := 2) (n := 12) (Nat.le_of_ble_eq_true rfl) (Nat.le_of_ble_eq_true rfl) ?_
            exact x_ret (g_iret hx hb hr hlk hI (dc tbX6_step_0_k 26 rfl))
          · have hf := ite_f c8 hf
            refine by_c (c := x2 = (1 : Int32)) (fun c10 => ?_) (fun c10 => ?_)
            · have hf := ite_t c10 hf
              refine lv_et c10 ?_
              refine lv_tableIn (tgt := 76) hx hb dX6_step_37 (by decide) (by decide) rfl rfl ?_
              refine lv_aload_n hx hb (dc tbX6_step_0_k 27 rfl) rfl (lv_at hl 0 rfl) ?_
              refine gg6_3 hx hb hts hown hK hI hk0.1 q_t2_85 (dc tbX6_step_0_k 28 rfl) ?_
              refine gg1_15 hx hb hts hown hK hI hk0.2.2.2.1.1 q_t1_132 (dc tbX6_step_0_k 29 rfl) ?_
              refine lv_iload_n hx hb (dc tbX6_step_0_k 30 rfl) rfl (lv_at hl 1 rfl) ?_
              obtain ⟨h11, hf⟩ := chk_s hf
              refine g_iald hx hb hK hI hk0.2.2.2.1.2.2.2.2.2.1 (okb_in h11) (dc tbX6_step_0_k 31 rfl) ?_
              refine lv_iconst (v := 1) hx hb (dc tbX6_step_0_k 32 rfl) ic_1 ?_
              refine lv_iand hx hb (dc tbX6_step_0_k 33 rfl) ?_
              cases hf
              refine W.widen (k := 2) (n := 12) (Nat.le_of_ble_eq_true rfl) (Nat.le_of_ble_eq_true rfl) ?_
              exact x_ret (g_iret hx hb hr hlk hI (dc tbX6_step_0_k 34 rfl))
            · have hf := ite_f c10 hf
              refine by_c (c := x2 = (2 : Int32)) (fun c12 => ?_) (fun c12 => ?_)
              · have hf := ite_t c12 hf
                refine lv_et c12 ?_
                refine lv_tableIn (tgt := 88) hx hb dX6_step_37 (by decide) (by decide) rfl rfl ?_
                refine lv_aload_n hx hb (dc tbX6_step_0_k 35 rfl) rfl (lv_at hl 0 rfl) ?_
                refine gg6_3 hx hb hts hown hK hI hk0.1 q_t2_85 (dc tbX6_step_0_k 36 rfl) ?_
                refine gg1_16 hx hb hts hown hK hI hk0.2.2.2.1.1 q_t1_134 (dc tbX6_step_0_k 37 rfl) ?_
                refine lv_iload_n hx hb (dc tbX6_step_0_k 38 rfl) rfl (lv_at hl 1 rfl) ?_
                obtain ⟨h13, hf⟩ := chk_s hf
                refine g_iald hx hb hK hI hk0.2.2.2.1.2.2.2.2.2.2.1 (okb_in h13) (dc tbX6_step_0_k 39 rfl) ?_
                cases hf
                refine W.widen (k := 2) (n := 12) (Nat.le_of_ble_eq_true rfl) (Nat.le_of_ble_eq_true rfl) ?_
                exact x_ret (g_iret hx hb hr hlk hI (dc tbX6_step_1_k 0 rfl))
              · have hf := ite_f c12 hf
                refine lv_tableOut (tgt := 98) hx hb dX6_step_37 (by have := sw_ne (k := 0) (z := 0) c8 rfl; have := sw_ne (k := 1) (z := 1) c10 rfl; have := sw_ne (k := 2) (z := 2) c12 rfl; omega) rfl ?_
                refine lv_aload_n hx hb (dc tbX6_step_1_k 1 rfl) rfl (lv_at hl 0 rfl) ?_
                refine gg6_3 hx hb hts hown hK hI hk0.1 q_t2_85 (dc tbX6_step_1_k 2 rfl) ?_
                refine gg1_17 hx hb hts hown hK hI hk0.2.2.2.1.1 q_t1_136 (dc tbX6_step_1_k 3 rfl) ?_
                refine lv_iload_n hx hb (dc tbX6_step_1_k 4 rfl) rfl (lv_at hl 1 rfl) ?_
                obtain ⟨h14, hf⟩ := chk_s hf
                refine g_iald hx hb hK hI hk0.2.2.2.1.2.2.2.2.2.2.2 (okb_in h14) (dc tbX6_step_1_k 5 rfl) ?_
                cases hf
                refine W.widen (k := 2) (n := 12) (Nat.le_of_ble_eq_true rfl) (Nat.le_of_ble_eq_true rfl) ?_
                exact x_ret (g_iret hx hb hr hlk hI (dc tbX6_step_1_k 6 rfl))
        · exact x_callT (g_runXS hx hb hml hown hts hK hap hsx hI (tX6_requireChoice l hst  q4 H.size) cs_X6_requireChoice q_t6_78 rfl rfl ⟨Nat.le_of_ble_eq_true rfl, Nat.le_of_ble_eq_true rfl⟩ rfl hl.1 rfl (Nat.le_of_ble_eq_true rfl) (dc tbX6_step_0_k 17 rfl) ⟨Nat.le_of_ble_eq_true rfl, Nat.le_of_ble_eq_true rfl⟩) hI htb hlk (Nat.le_of_ble_eq_true rfl) (Nat.le_of_ble_eq_true rfl)
      · have hf := ite_f c3 hf
        exact tX6_step_b21 C hst htb hk0 M hf _ _ _ hI (lv_sub hl [] rfl)
theorem cv_X6_step : cvF RX6 yX6_step cX6_step 3 (some .int) 2 := ⟨q_t6_86, q_t6_87, q_t1_1, q_t6_88, by decide +kernel⟩
def mX6_costSoFar (k0 : Nat) (M : Mem) : Option Int32 := cap (mX1_sumOfCosts 5 M) (fun r2 => some r2)
set_option maxHeartbeats 4000000 in
set_option maxRecDepth 100000 in
theorem tX6_costSoFar (l : Launch) {G : GT} {kd : Nat → Nat × Nat} {ad : Nat → Nat} {k0 : Nat} (hk0 : kRoot kd k0) {M : Mem} {vo : Int32} (hf : mX6_costSoFar k0 M = some vo) (n : Nat) : Met l yX6_costSoFar (Cond.code yX6_costSoFar cX6_costSoFar 1 (some .int) :: WA) (rmO 1 0 0) (Pg G kd ad n [.ref (ad k0)] M) (Qg G kd ad n M (some (.int vo))) 0 0 (AS kd ad n) := by
  refine g_body (own := RX6) (by decide) rfl ?_ (Nat.le_of_ble_eq_true rfl)
  intro p e s m args below meth c C _ H locs ls hI hl
  obtain ⟨hx, hb, hml, hr, hown, hts, hlk, hK, hap, hsx⟩ := id C
  have hl : lv_has ls 1 [(0, .ref (ad k0))] := hl
  unfold mX6_costSoFar at hf
  refine lv_aload_n hx hb (dc tbX6_costSoFar_k 0 rfl) rfl (lv_at hl 0 rfl) ?_
  refine gg6_3 hx hb hts hown hK hI hk0.1 q_t2_85 (dc tbX6_costSoFar_k 1 rfl) ?_
  obtain ⟨r2, q1, hf⟩ := cap_s hf
  refine g_callVi hx hb hml hown hts hK hap hsx hI (tX1_sumOfCosts l hk0.2.2.2.1 q1 H.size) cv_X1_sumOfCosts q_t3_12 rfl rfl ⟨Nat.le_of_ble_eq_true rfl, Nat.le_of_ble_eq_true rfl⟩ hk0.2.2.2.1.1 (by simp) rfl rfl rfl hl.1 rfl (Nat.le_of_ble_eq_true rfl) (dc tbX6_costSoFar_k 2 rfl) ⟨Nat.le_of_ble_eq_true rfl, Nat.le_of_ble_eq_true rfl⟩ (fun H locs hI => ?_)
  cases hf
  exact g_iret hx hb hr hlk hI (dc tbX6_costSoFar_k 3 rfl)
theorem cv_X6_costSoFar : cvF RX6 yX6_costSoFar cX6_costSoFar 1 (some .int) 0 := ⟨q_t3_9, q_t3_10, q_t1_1, q_t3_11, by decide +kernel⟩
def mX6_requireStep (k0 : Nat) (x1 : Int32) (x2 : Int32) (M : Mem) : Option (Mem × (Unit ⊕ Nat)) := calx (mX6_requireBend k0 x1 M) (fun M3 _ => calx (mX6_requireChoice x2 (1 : Int32) M3) (fun M7 _ => some (M7, Sum.inl ())))
set_option maxHeartbeats 4000000 in
set_option maxRecDepth 100000 in
theorem tX6_requireStep (l : Launch) (hst : l.stackTraces = false) {G : GT} {kd : Nat → Nat × Nat} {ad : Nat → Nat} {k0 : Nat} (hk0 : kRoot kd k0) {x1 : Int32} {x2 : Int32} {M : Mem} {MO : Mem} {vo : Unit ⊕ Nat} (hf : mX6_requireStep k0 x1 x2 M = some (MO, vo)) (n : Nat) : vx_Met l yX6_requireStep (Cond.code yX6_requireStep cX6_requireStep 3 none :: WA) (rmO 2 2 12) (Pg G kd ad n [.ref (ad k0), .int x1, .int x2] M) (Qx G kd ad n MO (zv vo)) (Xx G kd ad n MO (zv vo)) 2 12 (AS kd ad n) := by
  refine g_bodyX (own := RX6) (by decide) rfl ?_ (Nat.le_of_ble_eq_true rfl)
  intro p e s m args below meth c C htb _ H locs ls hI hl
  obtain ⟨hx, hb, hml, hr, hown, hts, hlk, hK, hap, hsx⟩ := id C
  have hl : lv_has ls 3 [(0, .ref (ad k0)), (1, .int x1), (2, .int x2)] := hl
  unfold mX6_requireStep at hf
  refine lv_aload_n hx hb (dc tbX6_requireStep_k 0 rfl) rfl (lv_at hl 0 rfl) ?_
  refine lv_iload_n hx hb (dc tbX6_requireStep_k 1 rfl) rfl (lv_at hl 1 rfl) ?_
  rcases calx_s hf with ⟨M3, r2, q1, hf⟩ | ⟨e4, q1, rfl⟩
  · refine x_callRv (g_runXV hx hb hml hown hts hK hap hsx hI (tX6_requireBend l hst hk0 q1 H.size) cv_X6_requireBend q_t6_39 rfl rfl ⟨Nat.le_of_ble_eq_true rfl, Nat.le_of_ble_eq_true rfl⟩ hk0.1 (by simp) rfl rfl rfl hl.1 rfl (Nat.le_of_ble_eq_true rfl) (dc tbX6_requireStep_k 2 rfl) ⟨Nat.le_of_ble_eq_true rfl, Nat.le_of_ble_eq_true rfl⟩) hI (fun H locs hI => ?_)
    refine lv_iload_n hx hb (dc tbX6_requireStep_k 3 rfl) rfl (lv_at hl 2 rfl) ?_
    refine lv_iconst (v := 1) hx hb (dc tbX6_requireStep_k 4 rfl) ic_1 ?_
    rcases calx_s hf with ⟨M7, r6, q5, hf⟩ | ⟨e8, q5, rfl⟩
    · refine x_callRv (g_runXS hx hb hml hown hts hK hap hsx hI (tX6_requireChoice l hst  q5 H.size) cs_X6_requireChoice q_t6_78 rfl rfl ⟨Nat.le_of_ble_eq_true rfl, Nat.le_of_ble_eq_true rfl⟩ rfl hl.1 rfl (Nat.le_of_ble_eq_true rfl) (dc tbX6_requireStep_k 5 rfl) ⟨Nat.le_of_ble_eq_true rfl, Nat.le_of_ble_eq_true rfl⟩) hI (fun H locs hI => ?_)
      cases hf
      exact x_ret (g_vret hx hb hr hlk hI (dc tbX6_requireStep_k 6 rfl))
    · exact x_callT (g_runXS hx hb hml hown hts hK hap hsx hI (tX6_requireChoice l hst  q5 H.size) cs_X6_requireChoice q_t6_78 rfl rfl ⟨Nat.le_of_ble_eq_true rfl, Nat.le_of_ble_eq_true rfl⟩ rfl hl.1 rfl (Nat.le_of_ble_eq_true rfl) (dc tbX6_requireStep_k 5 rfl) ⟨Nat.le_of_ble_eq_true rfl, Nat.le_of_ble_eq_true rfl⟩) hI htb hlk (Nat.le_of_ble_eq_true rfl) (Nat.le_of_ble_eq_true rfl)
  · exact x_callT (g_runXV hx hb hml hown hts hK hap hsx hI (tX6_requireBend l hst hk0 q1 H.size) cv_X6_requireBend q_t6_39 rfl rfl ⟨Nat.le_of_ble_eq_true rfl, Nat.le_of_ble_eq_true rfl⟩ hk0.1 (by simp) rfl rfl rfl hl.1 rfl (Nat.le_of_ble_eq_true rfl) (dc tbX6_requireStep_k 2 rfl) ⟨Nat.le_of_ble_eq_true rfl, Nat.le_of_ble_eq_true rfl⟩) hI htb hlk (Nat.le_of_ble_eq_true rfl) (Nat.le_of_ble_eq_true rfl)
theorem cv_X6_requireStep : cvF RX6 yX6_requireStep cX6_requireStep 3 none 2 := ⟨q_t6_99, q_s2_13, q_t1_1, q_t6_100, by decide +kernel⟩
def mX6_reasonNow (k0 : Nat) (x1 : Int32) (M : Mem) : Option (Mem × Int32) := cal (mX2_reasonFor 103 5 (rd M 5 13) x1 M) (fun M3 r2 => some (M3, r2))
set_option maxHeartbeats 4000000 in
set_option maxRecDepth 100000 in
theorem tX6_reasonNow (l : Launch) {G : GT} {kd : Nat → Nat × Nat} {ad : Nat → Nat} {k0 : Nat} (hk0 : kRoot kd k0) {x1 : Int32} {M : Mem} {MO : Mem} {vo : Int32} (hf : mX6_reasonNow k0 x1 M = some (MO, vo)) (n : Nat) : Met l yX6_reasonNow (Cond.code yX6_reasonNow cX6_reasonNow 2 (some .int) :: WA) (rmO 3 0 0) (Pg G kd ad n [.ref (ad k0), .int x1] M) (Qg G kd ad n MO (some (.int vo))) 0 0 (AS kd ad n) := by
  refine g_body (own := RX6) (by decide) rfl ?_ (Nat.le_of_ble_eq_true rfl)
  intro p e s m args below meth c C _ H locs ls hI hl
  obtain ⟨hx, hb, hml, hr, hown, hts, hlk, hK, hap, hsx⟩ := id C
  have hl : lv_has ls 2 [(0, .ref (ad k0)), (1, .int x1)] := hl
  unfold mX6_reasonNow at hf
  refine lv_aload_n hx hb (dc tbX6_reasonNow_k 0 rfl) rfl (lv_at hl 0 rfl) ?_
  refine gg6_6 hx hb hts hown hK hI hk0.1 q_t2_88 (dc tbX6_reasonNow_k 1 rfl) ?_
  refine lv_aload_n hx hb (dc tbX6_reasonNow_k 2 rfl) rfl (lv_at hl 0 rfl) ?_
  refine gg6_3 hx hb hts hown hK hI hk0.1 q_t2_85 (dc tbX6_reasonNow_k 3 rfl) ?_
  refine lv_aload_n hx hb (dc tbX6_reasonNow_k 4 rfl) rfl (lv_at hl 0 rfl) ?_
  refine gg6_3 hx hb hts hown hK hI hk0.1 q_t2_85 (dc tbX6_reasonNow_k 5 rfl) ?_
  refine gg1_13 hx hb hts hown hK hI hk0.2.2.2.1.1 q_t1_128 (dc tbX6_reasonNow_k 6 rfl) ?_
  refine lv_iload_n hx hb (dc tbX6_reasonNow_k 7 rfl) rfl (lv_at hl 1 rfl) ?_
  obtain ⟨M3, r2, q1, hf⟩ := cal_s hf
  refine g_callVi hx hb hml hown hts hK hap hsx hI (tX2_reasonFor l hk0.2.2.2.2.2.2.1 hk0.2.2.2.1 q1 H.size) cv_X2_reasonFor q_t6_105 rfl rfl ⟨Nat.le_of_ble_eq_true rfl, Nat.le_of_ble_eq_true rfl⟩ hk0.2.2.2.2.2.2.1.1 (by simp) rfl rfl rfl hl.1 rfl (Nat.le_of_ble_eq_true rfl) (dc tbX6_reasonNow_k 8 rfl) ⟨Nat.le_of_ble_eq_true rfl, Nat.le_of_ble_eq_true rfl⟩ (fun H locs hI => ?_)
  cases hf
  exact g_iret hx hb hr hlk hI (dc tbX6_reasonNow_k 9 rfl)
theorem cv_X6_reasonNow : cvF RX6 yX6_reasonNow cX6_reasonNow 2 (some .int) 1 := ⟨q_t6_103, q_s2_14, q_t1_1, q_t6_104, by decide +kernel⟩
def mX6_reason (k0 : Nat) (x1 : Int32) (x2 : Int32) (M : Mem) : Option (Mem × (Int32 ⊕ Nat)) := calx (mX6_requireStep k0 x1 x2 M) (fun M3 _ => cal (mX6_reasonNow k0 (((2 : Int32) * x1) + x2) M3) (fun M7 r6 => some (M7, Sum.inl r6)))
set_option maxHeartbeats 4000000 in
set_option maxRecDepth 100000 in
theorem tX6_reason (l : Launch) (hst : l.stackTraces = false) {G : GT} {kd : Nat → Nat × Nat} {ad : Nat → Nat} {k0 : Nat} (hk0 : kRoot kd k0) {x1 : Int32} {x2 : Int32} {M : Mem} {MO : Mem} {vo : Int32 ⊕ Nat} (hf : mX6_reason k0 x1 x2 M = some (MO, vo)) (n : Nat) : vx_Met l yX6_reason (Cond.code yX6_reason cX6_reason 3 (some .int) :: WA) (rmO 4 2 12) (Pg G kd ad n [.ref (ad k0), .int x1, .int x2] M) (Qx G kd ad n MO (zi vo)) (Xx G kd ad n MO (zi vo)) 2 12 (AS kd ad n) := by
  refine g_bodyX (own := RX6) (by decide) rfl ?_ (Nat.le_of_ble_eq_true rfl)
  intro p e s m args below meth c C htb _ H locs ls hI hl
  obtain ⟨hx, hb, hml, hr, hown, hts, hlk, hK, hap, hsx⟩ := id C
  have hl : lv_has ls 3 [(0, .ref (ad k0)), (1, .int x1), (2, .int x2)] := hl
  unfold mX6_reason at hf
  refine lv_aload_n hx hb (dc tbX6_reason_k 0 rfl) rfl (lv_at hl 0 rfl) ?_
  refine lv_iload_n hx hb (dc tbX6_reason_k 1 rfl) rfl (lv_at hl 1 rfl) ?_
  refine lv_iload_n hx hb (dc tbX6_reason_k 2 rfl) rfl (lv_at hl 2 rfl) ?_
  rcases calx_s hf with ⟨M3, r2, q1, hf⟩ | ⟨e4, q1, rfl⟩
  · refine x_callRv (g_runXV hx hb hml hown hts hK hap hsx hI (tX6_requireStep l hst hk0 q1 H.size) cv_X6_requireStep q_t6_97 rfl rfl ⟨Nat.le_of_ble_eq_true rfl, Nat.le_of_ble_eq_true rfl⟩ hk0.1 (by simp) rfl rfl rfl hl.1 rfl (Nat.le_of_ble_eq_true rfl) (dc tbX6_reason_k 3 rfl) ⟨Nat.le_of_ble_eq_true rfl, Nat.le_of_ble_eq_true rfl⟩) hI (fun H locs hI => ?_)
    refine lv_aload_n hx hb (dc tbX6_reason_k 4 rfl) rfl (lv_at hl 0 rfl) ?_
    refine lv_iconst (v := 2) hx hb (dc tbX6_reason_k 5 rfl) ic_2 ?_
    refine lv_iload_n hx hb (dc tbX6_reason_k 6 rfl) rfl (lv_at hl 1 rfl) ?_
    refine lv_imul hx hb (dc tbX6_reason_k 7 rfl) ?_
    refine lv_iload_n hx hb (dc tbX6_reason_k 8 rfl) rfl (lv_at hl 2 rfl) ?_
    refine lv_iadd hx hb (dc tbX6_reason_k 9 rfl) ?_
    obtain ⟨M7, r6, q5, hf⟩ := cal_s hf
    refine g_callVi hx hb hml hown hts hK hap hsx hI (tX6_reasonNow l hk0 q5 H.size) cv_X6_reasonNow q_t6_101 rfl rfl ⟨Nat.le_of_ble_eq_true rfl, Nat.le_of_ble_eq_true rfl⟩ hk0.1 (by simp) rfl rfl rfl hl.1 rfl (Nat.le_of_ble_eq_true rfl) (dc tbX6_reason_k 10 rfl) ⟨Nat.le_of_ble_eq_true rfl, Nat.le_of_ble_eq_true rfl⟩ (fun H locs hI => ?_)
    cases hf
    exact x_ret (g_iret hx hb hr hlk hI (dc tbX6_reason_k 11 rfl))
  · exact x_callT (g_runXV hx hb hml hown hts hK hap hsx hI (tX6_requireStep l hst hk0 q1 H.size) cv_X6_requireStep q_t6_97 rfl rfl ⟨Nat.le_of_ble_eq_true rfl, Nat.le_of_ble_eq_true rfl⟩ hk0.1 (by simp) rfl rfl rfl hl.1 rfl (Nat.le_of_ble_eq_true rfl) (dc tbX6_reason_k 3 rfl) ⟨Nat.le_of_ble_eq_true rfl, Nat.le_of_ble_eq_true rfl⟩) hI htb hlk (Nat.le_of_ble_eq_true rfl) (Nat.le_of_ble_eq_true rfl)
theorem cv_X6_reason : cvF RX6 yX6_reason cX6_reason 3 (some .int) 2 := ⟨q_t6_94, q_t6_95, q_t1_1, q_t6_96, by decide +kernel⟩
def mX6_gaugeNow (k0 : Nat) (x1 : Int32) (M : Mem) : Option (Mem × Int32) := cal (mX2_layStep 103 5 (rd M 5 13) x1 M) (fun M3 _ => cap (mX2_reachToBack 103 M3) (fun r5 => some (M3, r5)))
set_option maxHeartbeats 4000000 in
set_option maxRecDepth 100000 in
theorem tX6_gaugeNow (l : Launch) {G : GT} {kd : Nat → Nat × Nat} {ad : Nat → Nat} {k0 : Nat} (hk0 : kRoot kd k0) {x1 : Int32} {M : Mem} {MO : Mem} {vo : Int32} (hf : mX6_gaugeNow k0 x1 M = some (MO, vo)) (n : Nat) : Met l yX6_gaugeNow (Cond.code yX6_gaugeNow cX6_gaugeNow 2 (some .int) :: WA) (rmO 2 0 0) (Pg G kd ad n [.ref (ad k0), .int x1] M) (Qg G kd ad n MO (some (.int vo))) 0 0 (AS kd ad n) := by
  refine g_body (own := RX6) (by decide) rfl ?_ (Nat.le_of_ble_eq_true rfl)
  intro p e s m args below meth c C _ H locs ls hI hl
  obtain ⟨hx, hb, hml, hr, hown, hts, hlk, hK, hap, hsx⟩ := id C
  have hl : lv_has ls 2 [(0, .ref (ad k0)), (1, .int x1)] := hl
  unfold mX6_gaugeNow at hf
  refine lv_aload_n hx hb (dc tbX6_gaugeNow_k 0 rfl) rfl (lv_at hl 0 rfl) ?_
  refine gg6_6 hx hb hts hown hK hI hk0.1 q_t2_88 (dc tbX6_gaugeNow_k 1 rfl) ?_
  refine lv_aload_n hx hb (dc tbX6_gaugeNow_k 2 rfl) rfl (lv_at hl 0 rfl) ?_
  refine gg6_3 hx hb hts hown hK hI hk0.1 q_t2_85 (dc tbX6_gaugeNow_k 3 rfl) ?_
  refine lv_aload_n hx hb (dc tbX6_gaugeNow_k 4 rfl) rfl (lv_at hl 0 rfl) ?_
  refine gg6_3 hx hb hts hown hK hI hk0.1 q_t2_85 (dc tbX6_gaugeNow_k 5 rfl) ?_
  refine gg1_13 hx hb hts hown hK hI hk0.2.2.2.1.1 q_t1_128 (dc tbX6_gaugeNow_k 6 rfl) ?_
  refine lv_iload_n hx hb (dc tbX6_gaugeNow_k 7 rfl) rfl (lv_at hl 1 rfl) ?_
  obtain ⟨M3, r2, q1, hf⟩ := cal_s hf
  refine g_callVv hx hb hml hown hts hK hap hsx hI (tX2_layStep l hk0.2.2.2.2.2.2.1 hk0.2.2.2.1 q1 H.size) cv_X2_layStep q_t6_117 rfl rfl ⟨Nat.le_of_ble_eq_true rfl, Nat.le_of_ble_eq_true rfl⟩ hk0.2.2.2.2.2.2.1.1 (by simp) rfl rfl rfl hl.1 rfl (Nat.le_of_ble_eq_true rfl) (dc tbX6_gaugeNow_k 8 rfl) ⟨Nat.le_of_ble_eq_true rfl, Nat.le_of_ble_eq_true rfl⟩ (fun H locs hI => ?_)
  refine lv_aload_n hx hb (dc tbX6_gaugeNow_k 9 rfl) rfl (lv_at hl 0 rfl) ?_
  refine gg6_6 hx hb hts hown hK hI hk0.1 q_t2_88 (dc tbX6_gaugeNow_k 10 rfl) ?_
  obtain ⟨r5, q4, hf⟩ := cap_s hf
  refine g_callVi hx hb hml hown hts hK hap hsx hI (tX2_reachToBack l hk0.2.2.2.2.2.2.1 q4 H.size) cv_X2_reachToBack q_t6_118 rfl rfl ⟨Nat.le_of_ble_eq_true rfl, Nat.le_of_ble_eq_true rfl⟩ hk0.2.2.2.2.2.2.1.1 (by simp) rfl rfl rfl hl.1 rfl (Nat.le_of_ble_eq_true rfl) (dc tbX6_gaugeNow_k 11 rfl) ⟨Nat.le_of_ble_eq_true rfl, Nat.le_of_ble_eq_true rfl⟩ (fun H locs hI => ?_)
  cases hf
  exact g_iret hx hb hr hlk hI (dc tbX6_gaugeNow_k 12 rfl)
theorem cv_X6_gaugeNow : cvF RX6 yX6_gaugeNow cX6_gaugeNow 2 (some .int) 1 := ⟨q_t6_115, q_s2_15, q_t1_1, q_t6_116, by decide +kernel⟩
def mX6_gauge (k0 : Nat) (x1 : Int32) (x2 : Int32) (M : Mem) : Option (Mem × (Int32 ⊕ Nat)) := calx (mX6_requireStep k0 x1 x2 M) (fun M3 _ => cal (mX6_gaugeNow k0 (((2 : Int32) * x1) + x2) M3) (fun M7 r6 => some (M7, Sum.inl r6)))
set_option maxHeartbeats 4000000 in
set_option maxRecDepth 100000 in
theorem tX6_gauge (l : Launch) (hst : l.stackTraces = false) {G : GT} {kd : Nat → Nat × Nat} {ad : Nat → Nat} {k0 : Nat} (hk0 : kRoot kd k0) {x1 : Int32} {x2 : Int32} {M : Mem} {MO : Mem} {vo : Int32 ⊕ Nat} (hf : mX6_gauge k0 x1 x2 M = some (MO, vo)) (n : Nat) : vx_Met l yX6_gauge (Cond.code yX6_gauge cX6_gauge 3 (some .int) :: WA) (rmO 3 2 12) (Pg G kd ad n [.ref (ad k0), .int x1, .int x2] M) (Qx G kd ad n MO (zi vo)) (Xx G kd ad n MO (zi vo)) 2 12 (AS kd ad n) := by
  refine g_bodyX (own := RX6) (by decide) rfl ?_ (Nat.le_of_ble_eq_true rfl)
  intro p e s m args below meth c C htb _ H locs ls hI hl
  obtain ⟨hx, hb, hml, hr, hown, hts, hlk, hK, hap, hsx⟩ := id C
  have hl : lv_has ls 3 [(0, .ref (ad k0)), (1, .int x1), (2, .int x2)] := hl
  unfold mX6_gauge at hf
  refine lv_aload_n hx hb (dc tbX6_gauge_k 0 rfl) rfl (lv_at hl 0 rfl) ?_
  refine lv_iload_n hx hb (dc tbX6_gauge_k 1 rfl) rfl (lv_at hl 1 rfl) ?_
  refine lv_iload_n hx hb (dc tbX6_gauge_k 2 rfl) rfl (lv_at hl 2 rfl) ?_
  rcases calx_s hf with ⟨M3, r2, q1, hf⟩ | ⟨e4, q1, rfl⟩
  · refine x_callRv (g_runXV hx hb hml hown hts hK hap hsx hI (tX6_requireStep l hst hk0 q1 H.size) cv_X6_requireStep q_t6_97 rfl rfl ⟨Nat.le_of_ble_eq_true rfl, Nat.le_of_ble_eq_true rfl⟩ hk0.1 (by simp) rfl rfl rfl hl.1 rfl (Nat.le_of_ble_eq_true rfl) (dc tbX6_gauge_k 3 rfl) ⟨Nat.le_of_ble_eq_true rfl, Nat.le_of_ble_eq_true rfl⟩) hI (fun H locs hI => ?_)
    refine lv_aload_n hx hb (dc tbX6_gauge_k 4 rfl) rfl (lv_at hl 0 rfl) ?_
    refine lv_iconst (v := 2) hx hb (dc tbX6_gauge_k 5 rfl) ic_2 ?_
    refine lv_iload_n hx hb (dc tbX6_gauge_k 6 rfl) rfl (lv_at hl 1 rfl) ?_
    refine lv_imul hx hb (dc tbX6_gauge_k 7 rfl) ?_
    refine lv_iload_n hx hb (dc tbX6_gauge_k 8 rfl) rfl (lv_at hl 2 rfl) ?_
    refine lv_iadd hx hb (dc tbX6_gauge_k 9 rfl) ?_
    obtain ⟨M7, r6, q5, hf⟩ := cal_s hf
    refine g_callVi hx hb hml hown hts hK hap hsx hI (tX6_gaugeNow l hk0 q5 H.size) cv_X6_gaugeNow q_t6_113 rfl rfl ⟨Nat.le_of_ble_eq_true rfl, Nat.le_of_ble_eq_true rfl⟩ hk0.1 (by simp) rfl rfl rfl hl.1 rfl (Nat.le_of_ble_eq_true rfl) (dc tbX6_gauge_k 10 rfl) ⟨Nat.le_of_ble_eq_true rfl, Nat.le_of_ble_eq_true rfl⟩ (fun H locs hI => ?_)
    cases hf
    exact x_ret (g_iret hx hb hr hlk hI (dc tbX6_gauge_k 11 rfl))
  · exact x_callT (g_runXV hx hb hml hown hts hK hap hsx hI (tX6_requireStep l hst hk0 q1 H.size) cv_X6_requireStep q_t6_97 rfl rfl ⟨Nat.le_of_ble_eq_true rfl, Nat.le_of_ble_eq_true rfl⟩ hk0.1 (by simp) rfl rfl rfl hl.1 rfl (Nat.le_of_ble_eq_true rfl) (dc tbX6_gauge_k 3 rfl) ⟨Nat.le_of_ble_eq_true rfl, Nat.le_of_ble_eq_true rfl⟩) hI htb hlk (Nat.le_of_ble_eq_true rfl) (Nat.le_of_ble_eq_true rfl)
theorem cv_X6_gauge : cvF RX6 yX6_gauge cX6_gauge 3 (some .int) 2 := ⟨q_t6_110, q_t6_111, q_t1_1, q_t6_112, by decide +kernel⟩
def mX6_corner (k0 : Nat) (x1 : Int32) (x2 : Int32) (x3 : Int32) (x4 : Int32) (M : Mem) : Option (Mem × (Int32 ⊕ Nat)) := calx (mX6_requireBend k0 x1 M) (fun M3 _ => calx (mX6_requireLeg k0 x3 M3) (fun M7 _ => calx (mX6_requireChoice x2 (1 : Int32) M7) (fun M11 _ => calx (mX6_requireChoice x4 (1 : Int32) M11) (fun M15 _ => cal (mX2_layStep 103 5 (rd M15 5 13) (((2 : Int32) * x1) + x2) M15) (fun M19 _ => ite2 (x4 = 0) (chk (okb x3 9) (some (M19, Sum.inl (rd M19 (103 + 1) (x3).toNatClampNeg)))) (chk (okb x3 9) (some (M19, Sum.inl (rd M19 (103 + 2) (x3).toNatClampNeg)))))))))
set_option maxHeartbeats 4000000 in
set_option maxRecDepth 100000 in
theorem tX6_corner (l : Launch) (hst : l.stackTraces = false) {G : GT} {kd : Nat → Nat × Nat} {ad : Nat → Nat} {k0 : Nat} (hk0 : kRoot kd k0) {x1 : Int32} {x2 : Int32} {x3 : Int32} {x4 : Int32} {M : Mem} {MO : Mem} {vo : Int32 ⊕ Nat} (hf : mX6_corner k0 x1 x2 x3 x4 M = some (MO, vo)) (n : Nat) : vx_Met l yX6_corner (Cond.code yX6_corner cX6_corner 5 (some .int) :: WA) (rmO 2 4 24) (Pg G kd ad n [.ref (ad k0), .int x1, .int x2, .int x3, .int x4] M) (Qx G kd ad n MO (zi vo)) (Xx G kd ad n MO (zi vo)) 4 24 (AS kd ad n) := by
  refine g_bodyX (own := RX6) (by decide) rfl ?_ (Nat.le_of_ble_eq_true rfl)
  intro p e s m args below meth c C htb _ H locs ls hI hl
  obtain ⟨hx, hb, hml, hr, hown, hts, hlk, hK, hap, hsx⟩ := id C
  have hl : lv_has ls 5 [(0, .ref (ad k0)), (1, .int x1), (2, .int x2), (3, .int x3), (4, .int x4)] := hl
  unfold mX6_corner at hf
  refine lv_aload_n hx hb (dc tbX6_corner_k 0 rfl) rfl (lv_at hl 0 rfl) ?_
  refine lv_iload_n hx hb (dc tbX6_corner_k 1 rfl) rfl (lv_at hl 1 rfl) ?_
  rcases calx_s hf with ⟨M3, r2, q1, hf⟩ | ⟨e4, q1, rfl⟩
  · refine x_callRv (g_runXV hx hb hml hown hts hK hap hsx hI (tX6_requireBend l hst hk0 q1 H.size) cv_X6_requireBend q_t6_39 rfl rfl ⟨Nat.le_of_ble_eq_true rfl, Nat.le_of_ble_eq_true rfl⟩ hk0.1 (by simp) rfl rfl rfl hl.1 rfl (Nat.le_of_ble_eq_true rfl) (dc tbX6_corner_k 2 rfl) ⟨Nat.le_of_ble_eq_true rfl, Nat.le_of_ble_eq_true rfl⟩) hI (fun H locs hI => ?_)
    refine lv_aload_n hx hb (dc tbX6_corner_k 3 rfl) rfl (lv_at hl 0 rfl) ?_
    refine lv_iload_n hx hb (dc tbX6_corner_k 4 rfl) rfl (lv_at hl 3 rfl) ?_
    rcases calx_s hf with ⟨M7, r6, q5, hf⟩ | ⟨e8, q5, rfl⟩
    · refine x_callRv (g_runXV hx hb hml hown hts hK hap hsx hI (tX6_requireLeg l hst hk0 q5 H.size) cv_X6_requireLeg q_t6_15 rfl rfl ⟨Nat.le_of_ble_eq_true rfl, Nat.le_of_ble_eq_true rfl⟩ hk0.1 (by simp) rfl rfl rfl hl.1 rfl (Nat.le_of_ble_eq_true rfl) (dc tbX6_corner_k 5 rfl) ⟨Nat.le_of_ble_eq_true rfl, Nat.le_of_ble_eq_true rfl⟩) hI (fun H locs hI => ?_)
      refine lv_iload_n hx hb (dc tbX6_corner_k 6 rfl) rfl (lv_at hl 2 rfl) ?_
      refine lv_iconst (v := 1) hx hb (dc tbX6_corner_k 7 rfl) ic_1 ?_
      rcases calx_s hf with ⟨M11, r10, q9, hf⟩ | ⟨e12, q9, rfl⟩
      · refine x_callRv (g_runXS hx hb hml hown hts hK hap hsx hI (tX6_requireChoice l hst  q9 H.size) cs_X6_requireChoice q_t6_78 rfl rfl ⟨Nat.le_of_ble_eq_true rfl, Nat.le_of_ble_eq_true rfl⟩ rfl hl.1 rfl (Nat.le_of_ble_eq_true rfl) (dc tbX6_corner_k 8 rfl) ⟨Nat.le_of_ble_eq_true rfl, Nat.le_of_ble_eq_true rfl⟩) hI (fun H locs hI => ?_)
        refine lv_iload hx hb (dc tbX6_corner_k 9 rfl) (lv_at hl 4 rfl) ?_
        refine lv_iconst (v := 1) hx hb (dc tbX6_corner_k 10 rfl) ic_1 ?_
        rcases calx_s hf with ⟨M15, r14, q13, hf⟩ | ⟨e16, q13, rfl⟩
        · refine x_callRv (g_runXS hx hb hml hown hts hK hap hsx hI (tX6_requireChoice l hst  q13 H.size) cs_X6_requireChoice q_t6_78 rfl rfl ⟨Nat.le_of_ble_eq_true rfl, Nat.le_of_ble_eq_true rfl⟩ rfl hl.1 rfl (Nat.le_of_ble_eq_true rfl) (dc tbX6_corner_k 11 rfl) ⟨Nat.le_of_ble_eq_true rfl, Nat.le_of_ble_eq_true rfl⟩) hI (fun H locs hI => ?_)
          refine lv_aload_n hx hb (dc tbX6_corner_k 12 rfl) rfl (lv_at hl 0 rfl) ?_
          refine gg6_6 hx hb hts hown hK hI hk0.1 q_t2_88 (dc tbX6_corner_k 13 rfl) ?_
          refine lv_aload_n hx hb (dc tbX6_corner_k 14 rfl) rfl (lv_at hl 0 rfl) ?_
          refine gg6_3 hx hb hts hown hK hI hk0.1 q_t2_85 (dc tbX6_corner_k 15 rfl) ?_
          refine lv_aload_n hx hb (dc tbX6_corner_k 16 rfl) rfl (lv_at hl 0 rfl) ?_
          refine gg6_3 hx hb hts hown hK hI hk0.1 q_t2_85 (dc tbX6_corner_k 17 rfl) ?_
          refine gg1_13 hx hb hts hown hK hI hk0.2.2.2.1.1 q_t1_128 (dc tbX6_corner_k 18 rfl) ?_
          refine lv_iconst (v := 2) hx hb (dc tbX6_corner_k 19 rfl) ic_2 ?_
          refine lv_iload_n hx hb (dc tbX6_corner_k 20 rfl) rfl (lv_at hl 1 rfl) ?_
          refine lv_imul hx hb (dc tbX6_corner_k 21 rfl) ?_
          refine lv_iload_n hx hb (dc tbX6_corner_k 22 rfl) rfl (lv_at hl 2 rfl) ?_
          refine lv_iadd hx hb (dc tbX6_corner_k 23 rfl) ?_
          obtain ⟨M19, r18, q17, hf⟩ := cal_s hf
          refine g_callVv hx hb hml hown hts hK hap hsx hI (tX2_layStep l hk0.2.2.2.2.2.2.1 hk0.2.2.2.1 q17 H.size) cv_X2_layStep q_t6_117 rfl rfl ⟨Nat.le_of_ble_eq_true rfl, Nat.le_of_ble_eq_true rfl⟩ hk0.2.2.2.2.2.2.1.1 (by simp) rfl rfl rfl hl.1 rfl (Nat.le_of_ble_eq_true rfl) (dc tbX6_corner_k 24 rfl) ⟨Nat.le_of_ble_eq_true rfl, Nat.le_of_ble_eq_true rfl⟩ (fun H locs hI => ?_)
          refine lv_iload hx hb (dc tbX6_corner_k 25 rfl) (lv_at hl 4 rfl) ?_
          refine lv_if_ne (tgt := 61) hx hb (dc tbX6_corner_k 26 rfl) rfl (fun c20 => ?_) (fun c20 => ?_)
          · have hf := ite_f c20 hf
            refine lv_aload_n hx hb (dc tbX6_corner_k 33 rfl) rfl (lv_at hl 0 rfl) ?_
            refine gg6_6 hx hb hts hown hK hI hk0.1 q_t2_88 (dc tbX6_corner_k 34 rfl) ?_
            refine gg2_1 hx hb hts hown hK hI hk0.2.2.2.2.2.2.1.1 q_t1_203 (dc tbX6_corner_k 35 rfl) ?_
            refine lv_iload_n hx hb (dc tbX6_corner_k 36 rfl) rfl (lv_at hl 3 rfl) ?_
            obtain ⟨h21, hf⟩ := chk_s hf
            refine g_iald hx hb hK hI hk0.2.2.2.2.2.2.1.2.2.1 (okb_in h21) (dc tbX6_corner_k 37 rfl) ?_
            cases hf
            exact x_ret (g_iret hx hb hr hlk hI (dc tbX6_corner_k 38 rfl))
          · have hf := ite_t c20 hf
            refine lv_aload_n hx hb (dc tbX6_corner_k 27 rfl) rfl (lv_at hl 0 rfl) ?_
            refine gg6_6 hx hb hts hown hK hI hk0.1 q_t2_88 (dc tbX6_corner_k 28 rfl) ?_
            refine gg2_0 hx hb hts hown hK hI hk0.2.2.2.2.2.2.1.1 q_t1_201 (dc tbX6_corner_k 29 rfl) ?_
            refine lv_iload_n hx hb (dc tbX6_corner_k 30 rfl) rfl (lv_at hl 3 rfl) ?_
            obtain ⟨h22, hf⟩ := chk_s hf
            refine g_iald hx hb hK hI hk0.2.2.2.2.2.2.1.2.1 (okb_in h22) (dc tbX6_corner_k 31 rfl) ?_
            refine lv_goto (tgt := 70) hx hb (dc tbX6_corner_k 32 rfl) rfl ?_
            cases hf
            exact x_ret (g_iret hx hb hr hlk hI (dc tbX6_corner_k 38 rfl))
        · exact x_callT (g_runXS hx hb hml hown hts hK hap hsx hI (tX6_requireChoice l hst  q13 H.size) cs_X6_requireChoice q_t6_78 rfl rfl ⟨Nat.le_of_ble_eq_true rfl, Nat.le_of_ble_eq_true rfl⟩ rfl hl.1 rfl (Nat.le_of_ble_eq_true rfl) (dc tbX6_corner_k 11 rfl) ⟨Nat.le_of_ble_eq_true rfl, Nat.le_of_ble_eq_true rfl⟩) hI htb hlk (Nat.le_of_ble_eq_true rfl) (Nat.le_of_ble_eq_true rfl)
      · exact x_callT (g_runXS hx hb hml hown hts hK hap hsx hI (tX6_requireChoice l hst  q9 H.size) cs_X6_requireChoice q_t6_78 rfl rfl ⟨Nat.le_of_ble_eq_true rfl, Nat.le_of_ble_eq_true rfl⟩ rfl hl.1 rfl (Nat.le_of_ble_eq_true rfl) (dc tbX6_corner_k 8 rfl) ⟨Nat.le_of_ble_eq_true rfl, Nat.le_of_ble_eq_true rfl⟩) hI htb hlk (Nat.le_of_ble_eq_true rfl) (Nat.le_of_ble_eq_true rfl)
    · exact x_callT (g_runXV hx hb hml hown hts hK hap hsx hI (tX6_requireLeg l hst hk0 q5 H.size) cv_X6_requireLeg q_t6_15 rfl rfl ⟨Nat.le_of_ble_eq_true rfl, Nat.le_of_ble_eq_true rfl⟩ hk0.1 (by simp) rfl rfl rfl hl.1 rfl (Nat.le_of_ble_eq_true rfl) (dc tbX6_corner_k 5 rfl) ⟨Nat.le_of_ble_eq_true rfl, Nat.le_of_ble_eq_true rfl⟩) hI htb hlk (Nat.le_of_ble_eq_true rfl) (Nat.le_of_ble_eq_true rfl)
  · exact x_callT (g_runXV hx hb hml hown hts hK hap hsx hI (tX6_requireBend l hst hk0 q1 H.size) cv_X6_requireBend q_t6_39 rfl rfl ⟨Nat.le_of_ble_eq_true rfl, Nat.le_of_ble_eq_true rfl⟩ hk0.1 (by simp) rfl rfl rfl hl.1 rfl (Nat.le_of_ble_eq_true rfl) (dc tbX6_corner_k 2 rfl) ⟨Nat.le_of_ble_eq_true rfl, Nat.le_of_ble_eq_true rfl⟩) hI htb hlk (Nat.le_of_ble_eq_true rfl) (Nat.le_of_ble_eq_true rfl)
theorem cv_X6_corner : cvF RX6 yX6_corner cX6_corner 5 (some .int) 4 := ⟨q_t6_123, q_t6_124, q_t1_1, q_t6_125, by decide +kernel⟩
def mX6_top (k0 : Nat) (x1 : Int32) (x2 : Int32) (M : Mem) : Option (Mem × (Int32 ⊕ Nat)) := calx (mX6_requireStep k0 x1 x2 M) (fun M3 _ => cal (mX2_layStep 103 5 (rd M3 5 13) (((2 : Int32) * x1) + x2) M3) (fun M7 _ => cap (mX2_topOfFreeSide 103 M7) (fun r9 => some (M7, Sum.inl r9))))
set_option maxHeartbeats 4000000 in
set_option maxRecDepth 100000 in
theorem tX6_top (l : Launch) (hst : l.stackTraces = false) {G : GT} {kd : Nat → Nat × Nat} {ad : Nat → Nat} {k0 : Nat} (hk0 : kRoot kd k0) {x1 : Int32} {x2 : Int32} {M : Mem} {MO : Mem} {vo : Int32 ⊕ Nat} (hf : mX6_top k0 x1 x2 M = some (MO, vo)) (n : Nat) : vx_Met l yX6_top (Cond.code yX6_top cX6_top 3 (some .int) :: WA) (rmO 3 2 12) (Pg G kd ad n [.ref (ad k0), .int x1, .int x2] M) (Qx G kd ad n MO (zi vo)) (Xx G kd ad n MO (zi vo)) 2 12 (AS kd ad n) := by
  refine g_bodyX (own := RX6) (by decide) rfl ?_ (Nat.le_of_ble_eq_true rfl)
  intro p e s m args below meth c C htb _ H locs ls hI hl
  obtain ⟨hx, hb, hml, hr, hown, hts, hlk, hK, hap, hsx⟩ := id C
  have hl : lv_has ls 3 [(0, .ref (ad k0)), (1, .int x1), (2, .int x2)] := hl
  unfold mX6_top at hf
  refine lv_aload_n hx hb (dc tbX6_top_k 0 rfl) rfl (lv_at hl 0 rfl) ?_
  refine lv_iload_n hx hb (dc tbX6_top_k 1 rfl) rfl (lv_at hl 1 rfl) ?_
  refine lv_iload_n hx hb (dc tbX6_top_k 2 rfl) rfl (lv_at hl 2 rfl) ?_
  rcases calx_s hf with ⟨M3, r2, q1, hf⟩ | ⟨e4, q1, rfl⟩
  · refine x_callRv (g_runXV hx hb hml hown hts hK hap hsx hI (tX6_requireStep l hst hk0 q1 H.size) cv_X6_requireStep q_t6_97 rfl rfl ⟨Nat.le_of_ble_eq_true rfl, Nat.le_of_ble_eq_true rfl⟩ hk0.1 (by simp) rfl rfl rfl hl.1 rfl (Nat.le_of_ble_eq_true rfl) (dc tbX6_top_k 3 rfl) ⟨Nat.le_of_ble_eq_true rfl, Nat.le_of_ble_eq_true rfl⟩) hI (fun H locs hI => ?_)
    refine lv_aload_n hx hb (dc tbX6_top_k 4 rfl) rfl (lv_at hl 0 rfl) ?_
    refine gg6_6 hx hb hts hown hK hI hk0.1 q_t2_88 (dc tbX6_top_k 5 rfl) ?_
    refine lv_aload_n hx hb (dc tbX6_top_k 6 rfl) rfl (lv_at hl 0 rfl) ?_
    refine gg6_3 hx hb hts hown hK hI hk0.1 q_t2_85 (dc tbX6_top_k 7 rfl) ?_
    refine lv_aload_n hx hb (dc tbX6_top_k 8 rfl) rfl (lv_at hl 0 rfl) ?_
    refine gg6_3 hx hb hts hown hK hI hk0.1 q_t2_85 (dc tbX6_top_k 9 rfl) ?_
    refine gg1_13 hx hb hts hown hK hI hk0.2.2.2.1.1 q_t1_128 (dc tbX6_top_k 10 rfl) ?_
    refine lv_iconst (v := 2) hx hb (dc tbX6_top_k 11 rfl) ic_2 ?_
    refine lv_iload_n hx hb (dc tbX6_top_k 12 rfl) rfl (lv_at hl 1 rfl) ?_
    refine lv_imul hx hb (dc tbX6_top_k 13 rfl) ?_
    refine lv_iload_n hx hb (dc tbX6_top_k 14 rfl) rfl (lv_at hl 2 rfl) ?_
    refine lv_iadd hx hb (dc tbX6_top_k 15 rfl) ?_
    obtain ⟨M7, r6, q5, hf⟩ := cal_s hf
    refine g_callVv hx hb hml hown hts hK hap hsx hI (tX2_layStep l hk0.2.2.2.2.2.2.1 hk0.2.2.2.1 q5 H.size) cv_X2_layStep q_t6_117 rfl rfl ⟨Nat.le_of_ble_eq_true rfl, Nat.le_of_ble_eq_true rfl⟩ hk0.2.2.2.2.2.2.1.1 (by simp) rfl rfl rfl hl.1 rfl (Nat.le_of_ble_eq_true rfl) (dc tbX6_top_k 16 rfl) ⟨Nat.le_of_ble_eq_true rfl, Nat.le_of_ble_eq_true rfl⟩ (fun H locs hI => ?_)
    refine lv_aload_n hx hb (dc tbX6_top_k 17 rfl) rfl (lv_at hl 0 rfl) ?_
    refine gg6_6 hx hb hts hown hK hI hk0.1 q_t2_88 (dc tbX6_top_k 18 rfl) ?_
    obtain ⟨r9, q8, hf⟩ := cap_s hf
    refine g_callVi hx hb hml hown hts hK hap hsx hI (tX2_topOfFreeSide l hk0.2.2.2.2.2.2.1 q8 H.size) cv_X2_topOfFreeSide q_t6_133 rfl rfl ⟨Nat.le_of_ble_eq_true rfl, Nat.le_of_ble_eq_true rfl⟩ hk0.2.2.2.2.2.2.1.1 (by simp) rfl rfl rfl hl.1 rfl (Nat.le_of_ble_eq_true rfl) (dc tbX6_top_k 19 rfl) ⟨Nat.le_of_ble_eq_true rfl, Nat.le_of_ble_eq_true rfl⟩ (fun H locs hI => ?_)
    cases hf
    exact x_ret (g_iret hx hb hr hlk hI (dc tbX6_top_k 20 rfl))
  · exact x_callT (g_runXV hx hb hml hown hts hK hap hsx hI (tX6_requireStep l hst hk0 q1 H.size) cv_X6_requireStep q_t6_97 rfl rfl ⟨Nat.le_of_ble_eq_true rfl, Nat.le_of_ble_eq_true rfl⟩ hk0.1 (by simp) rfl rfl rfl hl.1 rfl (Nat.le_of_ble_eq_true rfl) (dc tbX6_top_k 3 rfl) ⟨Nat.le_of_ble_eq_true rfl, Nat.le_of_ble_eq_true rfl⟩) hI htb hlk (Nat.le_of_ble_eq_true rfl) (Nat.le_of_ble_eq_true rfl)
theorem cv_X6_top : cvF RX6 yX6_top cX6_top 3 (some .int) 2 := ⟨q_t6_130, q_t6_131, q_t1_1, q_t6_132, by decide +kernel⟩
def mX6_hitting (k0 : Nat) (x1 : Int32) (x2 : Int32) (M : Mem) : Option (Mem × (Int32 ⊕ Nat)) := calx (mX6_requireStep k0 x1 x2 M) (fun M3 _ => cal (mX2_layStep 103 5 (rd M3 5 13) (((2 : Int32) * x1) + x2) M3) (fun M7 _ => cap (mX2_legsHitting 103 5 M7) (fun r9 => some (M7, Sum.inl r9))))
set_option maxHeartbeats 4000000 in
set_option maxRecDepth 100000 in
theorem tX6_hitting (l : Launch) (hst : l.stackTraces = false) {G : GT} {kd : Nat → Nat × Nat} {ad : Nat → Nat} {k0 : Nat} (hk0 : kRoot kd k0) {x1 : Int32} {x2 : Int32} {M : Mem} {MO : Mem} {vo : Int32 ⊕ Nat} (hf : mX6_hitting k0 x1 x2 M = some (MO, vo)) (n : Nat) : vx_Met l yX6_hitting (Cond.code yX6_hitting cX6_hitting 3 (some .int) :: WA) (rmO 3 2 12) (Pg G kd ad n [.ref (ad k0), .int x1, .int x2] M) (Qx G kd ad n MO (zi vo)) (Xx G kd ad n MO (zi vo)) 2 12 (AS kd ad n) := by
  refine g_bodyX (own := RX6) (by decide) rfl ?_ (Nat.le_of_ble_eq_true rfl)
  intro p e s m args below meth c C htb _ H locs ls hI hl
  obtain ⟨hx, hb, hml, hr, hown, hts, hlk, hK, hap, hsx⟩ := id C
  have hl : lv_has ls 3 [(0, .ref (ad k0)), (1, .int x1), (2, .int x2)] := hl
  unfold mX6_hitting at hf
  refine lv_aload_n hx hb (dc tbX6_hitting_k 0 rfl) rfl (lv_at hl 0 rfl) ?_
  refine lv_iload_n hx hb (dc tbX6_hitting_k 1 rfl) rfl (lv_at hl 1 rfl) ?_
  refine lv_iload_n hx hb (dc tbX6_hitting_k 2 rfl) rfl (lv_at hl 2 rfl) ?_
  rcases calx_s hf with ⟨M3, r2, q1, hf⟩ | ⟨e4, q1, rfl⟩
  · refine x_callRv (g_runXV hx hb hml hown hts hK hap hsx hI (tX6_requireStep l hst hk0 q1 H.size) cv_X6_requireStep q_t6_97 rfl rfl ⟨Nat.le_of_ble_eq_true rfl, Nat.le_of_ble_eq_true rfl⟩ hk0.1 (by simp) rfl rfl rfl hl.1 rfl (Nat.le_of_ble_eq_true rfl) (dc tbX6_hitting_k 3 rfl) ⟨Nat.le_of_ble_eq_true rfl, Nat.le_of_ble_eq_true rfl⟩) hI (fun H locs hI => ?_)
    refine lv_aload_n hx hb (dc tbX6_hitting_k 4 rfl) rfl (lv_at hl 0 rfl) ?_
    refine gg6_6 hx hb hts hown hK hI hk0.1 q_t2_88 (dc tbX6_hitting_k 5 rfl) ?_
    refine lv_aload_n hx hb (dc tbX6_hitting_k 6 rfl) rfl (lv_at hl 0 rfl) ?_
    refine gg6_3 hx hb hts hown hK hI hk0.1 q_t2_85 (dc tbX6_hitting_k 7 rfl) ?_
    refine lv_aload_n hx hb (dc tbX6_hitting_k 8 rfl) rfl (lv_at hl 0 rfl) ?_
    refine gg6_3 hx hb hts hown hK hI hk0.1 q_t2_85 (dc tbX6_hitting_k 9 rfl) ?_
    refine gg1_13 hx hb hts hown hK hI hk0.2.2.2.1.1 q_t1_128 (dc tbX6_hitting_k 10 rfl) ?_
    refine lv_iconst (v := 2) hx hb (dc tbX6_hitting_k 11 rfl) ic_2 ?_
    refine lv_iload_n hx hb (dc tbX6_hitting_k 12 rfl) rfl (lv_at hl 1 rfl) ?_
    refine lv_imul hx hb (dc tbX6_hitting_k 13 rfl) ?_
    refine lv_iload_n hx hb (dc tbX6_hitting_k 14 rfl) rfl (lv_at hl 2 rfl) ?_
    refine lv_iadd hx hb (dc tbX6_hitting_k 15 rfl) ?_
    obtain ⟨M7, r6, q5, hf⟩ := cal_s hf
    refine g_callVv hx hb hml hown hts hK hap hsx hI (tX2_layStep l hk0.2.2.2.2.2.2.1 hk0.2.2.2.1 q5 H.size) cv_X2_layStep q_t6_117 rfl rfl ⟨Nat.le_of_ble_eq_true rfl, Nat.le_of_ble_eq_true rfl⟩ hk0.2.2.2.2.2.2.1.1 (by simp) rfl rfl rfl hl.1 rfl (Nat.le_of_ble_eq_true rfl) (dc tbX6_hitting_k 16 rfl) ⟨Nat.le_of_ble_eq_true rfl, Nat.le_of_ble_eq_true rfl⟩ (fun H locs hI => ?_)
    refine lv_aload_n hx hb (dc tbX6_hitting_k 17 rfl) rfl (lv_at hl 0 rfl) ?_
    refine gg6_6 hx hb hts hown hK hI hk0.1 q_t2_88 (dc tbX6_hitting_k 18 rfl) ?_
    refine lv_aload_n hx hb (dc tbX6_hitting_k 19 rfl) rfl (lv_at hl 0 rfl) ?_
    refine gg6_3 hx hb hts hown hK hI hk0.1 q_t2_85 (dc tbX6_hitting_k 20 rfl) ?_
    obtain ⟨r9, q8, hf⟩ := cap_s hf
    refine g_callVi hx hb hml hown hts hK hap hsx hI (tX2_legsHitting l hk0.2.2.2.2.2.2.1 hk0.2.2.2.1 q8 H.size) cv_X2_legsHitting q_t6_144 rfl rfl ⟨Nat.le_of_ble_eq_true rfl, Nat.le_of_ble_eq_true rfl⟩ hk0.2.2.2.2.2.2.1.1 (by simp) rfl rfl rfl hl.1 rfl (Nat.le_of_ble_eq_true rfl) (dc tbX6_hitting_k 21 rfl) ⟨Nat.le_of_ble_eq_true rfl, Nat.le_of_ble_eq_true rfl⟩ (fun H locs hI => ?_)
    cases hf
    exact x_ret (g_iret hx hb hr hlk hI (dc tbX6_hitting_k 22 rfl))
  · exact x_callT (g_runXV hx hb hml hown hts hK hap hsx hI (tX6_requireStep l hst hk0 q1 H.size) cv_X6_requireStep q_t6_97 rfl rfl ⟨Nat.le_of_ble_eq_true rfl, Nat.le_of_ble_eq_true rfl⟩ hk0.1 (by simp) rfl rfl rfl hl.1 rfl (Nat.le_of_ble_eq_true rfl) (dc tbX6_hitting_k 3 rfl) ⟨Nat.le_of_ble_eq_true rfl, Nat.le_of_ble_eq_true rfl⟩) hI htb hlk (Nat.le_of_ble_eq_true rfl) (Nat.le_of_ble_eq_true rfl)
theorem cv_X6_hitting : cvF RX6 yX6_hitting cX6_hitting 3 (some .int) 2 := ⟨q_t6_141, q_t6_142, q_t1_1, q_t6_143, by decide +kernel⟩
def mX6_refused_b11 (k0 : Nat) (M : Mem) : Option (Mem × (Int32 ⊕ Nat)) := some (M, Sum.inr 0)
set_option maxHeartbeats 4000000 in
set_option maxRecDepth 100000 in
theorem tX6_refused_b11 {p : Program} {l : Launch} {e : Env} {s : State} {m : MethodId} {args : Array Value} {below : List Frame} {meth : Method} {c : Code} {G : GT} {kd : Nat → Nat × Nat} {ad : Nat → Nat} (C : Cx p s m args meth c cX6_refused 4 (some .int) RX6 G kd ad) (hst : l.stackTraces = false) (htb : ∀ x ∈ c.exceptionTable.toList, False) {k0 : Nat} (hk0 : kRoot kd k0) {MO : Mem} {vo : Int32 ⊕ Nat}   : ∀  (M : Mem), mX6_refused_b11 k0 M = some (MO, vo) → At p l e (rmO 4 1 6) s m args below meth c 0 0 (XQ G kd ad below args s MO (zi vo) 1 6) G kd ad 4 11 [] [] M := by
  intro M hf H locs ls hI hl
  obtain ⟨hx, hb, hml, hr, hown, hts, hlk, hK, hap, hsx⟩ := id C
  unfold mX6_refused_b11 at hf
  cases hf
  exact x_throw (text := "reason is not 1 to 6") (e9 := 0) false hx hb hst hml hown hts hlk hsx htb (by decide +kernel) fit_n q_t5_106 q_t1_15 (by decide +kernel) at_iae nb_iae gd_iae_66 rfl hI hl.1 (dc tbX6_refused_k 6 rfl) (dc tbX6_refused_k 7 rfl) (dc tbX6_refused_k 8 rfl) (dc tbX6_refused_k 9 rfl) (dc tbX6_refused_k 10 rfl) (Nat.le_of_ble_eq_true rfl) (Nat.le_of_ble_eq_true rfl) ⟨Nat.le_of_ble_eq_true rfl, Nat.le_of_ble_eq_true rfl⟩ (Nat.le_of_ble_eq_true rfl) (Nat.le_of_ble_eq_true rfl)
def mX6_refused_b50 (k0 : Nat) (ih25 : Int32 → Int32 → Int32 → Mem → Option (Mem × (Int32 ⊕ Nat))) (x1 : Int32) (x2 : Int32) (x3 : Int32) (M : Mem) : Option (Mem × (Int32 ⊕ Nat)) := bnd (x3 + (1 : Int32)) (fun x3_50 => ih25 x1 x2 x3_50 M)
set_option maxHeartbeats 4000000 in
set_option maxRecDepth 100000 in
theorem tX6_refused_b50 {p : Program} {l : Launch} {e : Env} {s : State} {m : MethodId} {args : Array Value} {below : List Frame} {meth : Method} {c : Code} {G : GT} {kd : Nat → Nat × Nat} {ad : Nat → Nat} (C : Cx p s m args meth c cX6_refused 4 (some .int) RX6 G kd ad) (hst : l.stackTraces = false) (htb : ∀ x ∈ c.exceptionTable.toList, False) {k0 : Nat} (hk0 : kRoot kd k0) {MO : Mem} {vo : Int32 ⊕ Nat} {ih25 : Int32 → Int32 → Int32 → Mem → Option (Mem × (Int32 ⊕ Nat))} (hih25 : ∀ (x1 : Int32) (x2 : Int32) (x3 : Int32) (M : Mem), ih25 x1 x2 x3 M = some (MO, vo) → At p l e (rmO 4 1 6) s m args below meth c 0 0 (XQ G kd ad below args s MO (zi vo) 1 6) G kd ad 4 25 [(0, .ref (ad k0)), (1, .int x1), (2, .int x2), (3, .int x3)] [] M) : ∀ (x1 : Int32) (x2 : Int32) (x3 : Int32) (M : Mem), mX6_refused_b50 k0 ih25 x1 x2 x3 M = some (MO, vo) → At p l e (rmO 4 1 6) s m args below meth c 0 0 (XQ G kd ad below args s MO (zi vo) 1 6) G kd ad 4 50 [(0, .ref (ad k0)), (1, .int x1), (2, .int x2), (3, .int x3)] [] M := by
  intro x1 x2 x3 M hf H locs ls hI hl
  obtain ⟨hx, hb, hml, hr, hown, hts, hlk, hK, hap, hsx⟩ := id C
  unfold mX6_refused_b50 at hf
  obtain ⟨x3_50, e11, hf⟩ := bnd_s hf
  refine lv_iinc (v := x3_50) (lv' := [(3, .int x3_50), (0, .ref (ad k0)), (1, .int x1), (2, .int x2)]) hx hb (dc tbX6_refused_k 28 rfl) hl (k := 3) rfl (ii_e e11 ic_1) (by decide) rfl (fun ls hl => ?_)
  refine lv_goto (tgt := 25) hx hb (dc tbX6_refused_k 29 rfl) rfl ?_
  exact hih25 x1 x2 x3_50 M hf _ _ _ hI (lv_sub hl [1, 2, 3, 0] rfl)
def mX6_refused_b25 (k0 : Nat) (ih25 : Int32 → Int32 → Int32 → Mem → Option (Mem × (Int32 ⊕ Nat))) (x1 : Int32) (x2 : Int32) (x3 : Int32) (M : Mem) : Option (Mem × (Int32 ⊕ Nat)) := cap (mX1_bendCount 5 M) (fun r4 => ite2 (((2 : Int32) * r4) ≤ x3) (some (M, Sum.inl x2)) (cal (mX6_reasonNow k0 x3 M) (fun M9 r8 => ite2 (r8 = x1) (bnd (x2 + (1 : Int32)) (fun x2_47 => mX6_refused_b50 k0 ih25 x1 x2_47 x3 M9)) (mX6_refused_b50 k0 ih25 x1 x2 x3 M9))))
set_option maxHeartbeats 4000000 in
set_option maxRecDepth 100000 in
theorem tX6_refused_b25 {p : Program} {l : Launch} {e : Env} {s : State} {m : MethodId} {args : Array Value} {below : List Frame} {meth : Method} {c : Code} {G : GT} {kd : Nat → Nat × Nat} {ad : Nat → Nat} (C : Cx p s m args meth c cX6_refused 4 (some .int) RX6 G kd ad) (hst : l.stackTraces = false) (htb : ∀ x ∈ c.exceptionTable.toList, False) {k0 : Nat} (hk0 : kRoot kd k0) {MO : Mem} {vo : Int32 ⊕ Nat} {ih25 : Int32 → Int32 → Int32 → Mem → Option (Mem × (Int32 ⊕ Nat))} (hih25 : ∀ (x1 : Int32) (x2 : Int32) (x3 : Int32) (M : Mem), ih25 x1 x2 x3 M = some (MO, vo) → At p l e (rmO 4 1 6) s m args below meth c 0 0 (XQ G kd ad below args s MO (zi vo) 1 6) G kd ad 4 25 [(0, .ref (ad k0)), (1, .int x1), (2, .int x2), (3, .int x3)] [] M) : ∀ (x1 : Int32) (x2 : Int32) (x3 : Int32) (M : Mem), mX6_refused_b25 k0 ih25 x1 x2 x3 M = some (MO, vo) → At p l e (rmO 4 1 6) s m args below meth c 0 0 (XQ G kd ad below args s MO (zi vo) 1 6) G kd ad 4 25 [(0, .ref (ad k0)), (1, .int x1), (2, .int x2), (3, .int x3)] [] M := by
  intro x1 x2 x3 M hf H locs ls hI hl
  obtain ⟨hx, hb, hml, hr, hown, hts, hlk, hK, hap, hsx⟩ := id C
  unfold mX6_refused_b25 at hf
  refine lv_iload_n hx hb (dc tbX6_refused_k 15 rfl) rfl (lv_at hl 3 rfl) ?_
  refine lv_iconst (v := 2) hx hb (dc tbX6_refused_k 16 rfl) ic_2 ?_
  refine lv_aload_n hx hb (dc tbX6_refused_k 17 rfl) rfl (lv_at hl 0 rfl) ?_
  refine gg6_3 hx hb hts hown hK hI hk0.1 q_t2_85 (dc tbX6_refused_k 18 rfl) ?_
  obtain ⟨r4, q3, hf⟩ := cap_s hf
  refine g_callVi hx hb hml hown hts hK hap hsx hI (tX1_bendCount l hk0.2.2.2.1 q3 H.size) cv_X1_bendCount q_t2_130 rfl rfl ⟨Nat.le_of_ble_eq_true rfl, Nat.le_of_ble_eq_true rfl⟩ hk0.2.2.2.1.1 (by simp) rfl rfl rfl hl.1 rfl (Nat.le_of_ble_eq_true rfl) (dc tbX6_refused_k 19 rfl) ⟨Nat.le_of_ble_eq_true rfl, Nat.le_of_ble_eq_true rfl⟩ (fun H locs hI => ?_)
  refine lv_imul hx hb (dc tbX6_refused_k 20 rfl) ?_
  refine lv_icmp_ge (tgt := 56) hx hb (dc tbX6_refused_k 21 rfl) rfl (fun c6 => ?_) (fun c6 => ?_)
  · have hf := ite_t c6 hf
    refine lv_iload_n hx hb (dc tbX6_refused_k 30 rfl) rfl (lv_at hl 2 rfl) ?_
    cases hf
    refine W.widen (k := 1) (n := 6) (Nat.le_of_ble_eq_true rfl) (Nat.le_of_ble_eq_true rfl) ?_
    exact x_ret (g_iret hx hb hr hlk hI (dc tbX6_refused_k 31 rfl))
  · have hf := ite_f c6 hf
    refine lv_aload_n hx hb (dc tbX6_refused_k 22 rfl) rfl (lv_at hl 0 rfl) ?_
    refine lv_iload_n hx hb (dc tbX6_refused_k 23 rfl) rfl (lv_at hl 3 rfl) ?_
    obtain ⟨M9, r8, q7, hf⟩ := cal_s hf
    refine g_callVi hx hb hml hown hts hK hap hsx hI (tX6_reasonNow l hk0 q7 H.size) cv_X6_reasonNow q_t6_101 rfl rfl ⟨Nat.le_of_ble_eq_true rfl, Nat.le_of_ble_eq_true rfl⟩ hk0.1 (by simp) rfl rfl rfl hl.1 rfl (Nat.le_of_ble_eq_true rfl) (dc tbX6_refused_k 24 rfl) ⟨Nat.le_of_ble_eq_true rfl, Nat.le_of_ble_eq_true rfl⟩ (fun H locs hI => ?_)
    refine lv_iload_n hx hb (dc tbX6_refused_k 25 rfl) rfl (lv_at hl 1 rfl) ?_
    refine lv_icmp_ne (tgt := 50) hx hb (dc tbX6_refused_k 26 rfl) rfl (fun c10 => ?_) (fun c10 => ?_)
    · have hf := ite_f c10 hf
      exact tX6_refused_b50 C hst htb hk0 hih25 x1 x2 x3 M9 hf _ _ _ hI (lv_sub hl [0, 1, 2, 3] rfl)
    · have hf := ite_t c10 hf
      obtain ⟨x2_47, e12, hf⟩ := bnd_s hf
      refine lv_iinc (v := x2_47) (lv' := [(2, .int x2_47), (0, .ref (ad k0)), (1, .int x1), (3, .int x3)]) hx hb (dc tbX6_refused_k 27 rfl) hl (k := 2) rfl (ii_e e12 ic_1) (by decide) rfl (fun ls hl => ?_)
      exact tX6_refused_b50 C hst htb hk0 hih25 x1 x2_47 x3 M9 hf _ _ _ hI (lv_sub hl [1, 2, 0, 3] rfl)
def mX6_refused_l25 (k0 : Nat) : Nat → Int32 → Int32 → Int32 → Mem → Option (Mem × (Int32 ⊕ Nat))
  | 0 => fun _ _ _ _ => none
  | n + 1 => mX6_refused_b25 k0 (mX6_refused_l25 k0 n)
theorem tX6_refused_l25 {p : Program} {l : Launch} {e : Env} {s : State} {m : MethodId} {args : Array Value} {below : List Frame} {meth : Method} {c : Code} {G : GT} {kd : Nat → Nat × Nat} {ad : Nat → Nat} (C : Cx p s m args meth c cX6_refused 4 (some .int) RX6 G kd ad) (hst : l.stackTraces = false) (htb : ∀ x ∈ c.exceptionTable.toList, False) {k0 : Nat} (hk0 : kRoot kd k0) {MO : Mem} {vo : Int32 ⊕ Nat}   : ∀ (fuel : Nat) (x1 : Int32) (x2 : Int32) (x3 : Int32) (M : Mem), mX6_refused_l25 k0 fuel x1 x2 x3 M = some (MO, vo) → At p l e (rmO 4 1 6) s m args below meth c 0 0 (XQ G kd ad below args s MO (zi vo) 1 6) G kd ad 4 25 [(0, .ref (ad k0)), (1, .int x1), (2, .int x2), (3, .int x3)] [] M := by
  intro fuel
  induction fuel with
  | zero => intro x1 x2 x3 M hf; cases hf
  | succ n IH => exact tX6_refused_b25 C hst htb hk0 IH
def mX6_refused (k0 : Nat) (x1 : Int32) (M : Mem) : Option (Mem × (Int32 ⊕ Nat)) := ite2 (x1 < (1 : Int32)) (mX6_refused_b11 k0 M) (ite2 (x1 ≤ (6 : Int32)) (mX6_refused_l25 k0 5000 x1 (0 : Int32) (0 : Int32) M) (mX6_refused_b11 k0 M))
set_option maxHeartbeats 4000000 in
set_option maxRecDepth 100000 in
theorem tX6_refused (l : Launch) (hst : l.stackTraces = false) {G : GT} {kd : Nat → Nat × Nat} {ad : Nat → Nat} {k0 : Nat} (hk0 : kRoot kd k0) {x1 : Int32} {M : Mem} {MO : Mem} {vo : Int32 ⊕ Nat} (hf : mX6_refused k0 x1 M = some (MO, vo)) (n : Nat) : vx_Met l yX6_refused (Cond.code yX6_refused cX6_refused 4 (some .int) :: WA) (rmO 4 1 6) (Pg G kd ad n [.ref (ad k0), .int x1] M) (Qx G kd ad n MO (zi vo)) (Xx G kd ad n MO (zi vo)) 1 6 (AS kd ad n) := by
  refine g_bodyX (own := RX6) (by decide) rfl ?_ (Nat.le_of_ble_eq_true rfl)
  intro p e s m args below meth c C htb _ H locs ls hI hl
  obtain ⟨hx, hb, hml, hr, hown, hts, hlk, hK, hap, hsx⟩ := id C
  have hl : lv_has ls 4 [(0, .ref (ad k0)), (1, .int x1)] := hl
  unfold mX6_refused at hf
  refine lv_iload_n hx hb (dc tbX6_refused_k 0 rfl) rfl (lv_at hl 1 rfl) ?_
  refine lv_iconst (v := 1) hx hb (dc tbX6_refused_k 1 rfl) ic_1 ?_
  refine lv_icmp_lt (tgt := 11) hx hb (dc tbX6_refused_k 2 rfl) rfl (fun c1 => ?_) (fun c1 => ?_)
  · have hf := ite_t c1 hf
    exact tX6_refused_b11 C hst htb hk0 M hf _ _ _ hI (lv_sub hl [] rfl)
  · have hf := ite_f c1 hf
    refine lv_iload_n hx hb (dc tbX6_refused_k 3 rfl) rfl (lv_at hl 1 rfl) ?_
    refine lv_bipush (v := 6) hx hb (dc tbX6_refused_k 4 rfl) bp_6 ?_
    refine lv_icmp_le (tgt := 21) hx hb (dc tbX6_refused_k 5 rfl) rfl (fun c2 => ?_) (fun c2 => ?_)
    · have hf := ite_t c2 hf
      refine lv_iconst (v := 0) hx hb (dc tbX6_refused_k 11 rfl) ic_0 ?_
      refine lv_istore_n (lv' := [(2, .int (0 : Int32)), (0, .ref (ad k0)), (1, .int x1)]) hx hb (dc tbX6_refused_k 12 rfl) rfl hl (by decide) rfl (fun ls hl => ?_)
      refine lv_iconst (v := 0) hx hb (dc tbX6_refused_k 13 rfl) ic_0 ?_
      refine lv_istore_n (lv' := [(3, .int (0 : Int32)), (2, .int (0 : Int32)), (0, .ref (ad k0)), (1, .int x1)]) hx hb (dc tbX6_refused_k 14 rfl) rfl hl (by decide) rfl (fun ls hl => ?_)
      exact tX6_refused_l25 C hst htb hk0 5000 x1 (0 : Int32) (0 : Int32) M hf _ _ _ hI (lv_sub hl [2, 3, 1, 0] rfl)
    · have hf := ite_f c2 hf
      exact tX6_refused_b11 C hst htb hk0 M hf _ _ _ hI (lv_sub hl [] rfl)
theorem cv_X6_refused : cvF RX6 yX6_refused cX6_refused 4 (some .int) 1 := ⟨q_t6_149, q_t6_150, q_t1_1, q_t6_151, by decide +kernel⟩
def mX6_possible (k0 : Nat) (M : Mem) : Option (Mem × Int32) := cal (mX2_possibleSteps 103 5 (rd M 5 13) M) (fun M3 r2 => some (M3, r2))
set_option maxHeartbeats 4000000 in
set_option maxRecDepth 100000 in
theorem tX6_possible (l : Launch) {G : GT} {kd : Nat → Nat × Nat} {ad : Nat → Nat} {k0 : Nat} (hk0 : kRoot kd k0) {M : Mem} {MO : Mem} {vo : Int32} (hf : mX6_possible k0 M = some (MO, vo)) (n : Nat) : Met l yX6_possible (Cond.code yX6_possible cX6_possible 1 (some .int) :: WA) (rmO 4 0 0) (Pg G kd ad n [.ref (ad k0)] M) (Qg G kd ad n MO (some (.int vo))) 0 0 (AS kd ad n) := by
  refine g_body (own := RX6) (by decide) rfl ?_ (Nat.le_of_ble_eq_true rfl)
  intro p e s m args below meth c C _ H locs ls hI hl
  obtain ⟨hx, hb, hml, hr, hown, hts, hlk, hK, hap, hsx⟩ := id C
  have hl : lv_has ls 1 [(0, .ref (ad k0))] := hl
  unfold mX6_possible at hf
  refine lv_aload_n hx hb (dc tbX6_possible_k 0 rfl) rfl (lv_at hl 0 rfl) ?_
  refine gg6_6 hx hb hts hown hK hI hk0.1 q_t2_88 (dc tbX6_possible_k 1 rfl) ?_
  refine lv_aload_n hx hb (dc tbX6_possible_k 2 rfl) rfl (lv_at hl 0 rfl) ?_
  refine gg6_3 hx hb hts hown hK hI hk0.1 q_t2_85 (dc tbX6_possible_k 3 rfl) ?_
  refine lv_aload_n hx hb (dc tbX6_possible_k 4 rfl) rfl (lv_at hl 0 rfl) ?_
  refine gg6_3 hx hb hts hown hK hI hk0.1 q_t2_85 (dc tbX6_possible_k 5 rfl) ?_
  refine gg1_13 hx hb hts hown hK hI hk0.2.2.2.1.1 q_t1_128 (dc tbX6_possible_k 6 rfl) ?_
  obtain ⟨M3, r2, q1, hf⟩ := cal_s hf
  refine g_callVi hx hb hml hown hts hK hap hsx hI (tX2_possibleSteps l hk0.2.2.2.2.2.2.1 hk0.2.2.2.1 q1 H.size) cv_X2_possibleSteps q_t3_20 rfl rfl ⟨Nat.le_of_ble_eq_true rfl, Nat.le_of_ble_eq_true rfl⟩ hk0.2.2.2.2.2.2.1.1 (by simp) rfl rfl rfl hl.1 rfl (Nat.le_of_ble_eq_true rfl) (dc tbX6_possible_k 7 rfl) ⟨Nat.le_of_ble_eq_true rfl, Nat.le_of_ble_eq_true rfl⟩ (fun H locs hI => ?_)
  cases hf
  exact g_iret hx hb hr hlk hI (dc tbX6_possible_k 8 rfl)
theorem cv_X6_possible : cvF RX6 yX6_possible cX6_possible 1 (some .int) 0 := ⟨q_t3_17, q_t3_18, q_t1_1, q_t3_19, by decide +kernel⟩
def mX6_stuck_b73 (k0 : Nat) (ih23 : Int32 → Int32 → Int32 → Mem → Option (Mem × Int32)) (x1 : Int32) (x2 : Int32) (x3 : Int32) (M : Mem) : Option (Mem × Int32) := bnd (x3 + (1 : Int32)) (fun x3_73 => ih23 x1 x2 x3_73 M)
set_option maxHeartbeats 4000000 in
set_option maxRecDepth 100000 in
theorem tX6_stuck_b73 {p : Program} {l : Launch} {e : Env} {s : State} {m : MethodId} {args : Array Value} {below : List Frame} {meth : Method} {c : Code} {G : GT} {kd : Nat → Nat × Nat} {ad : Nat → Nat} (C : Cx p s m args meth c cX6_stuck 5 (some .int) RX6 G kd ad) {k0 : Nat} (hk0 : kRoot kd k0) {MO : Mem} {vo : Int32} {ih23 : Int32 → Int32 → Int32 → Mem → Option (Mem × Int32)} (hih23 : ∀ (x1 : Int32) (x2 : Int32) (x3 : Int32) (M : Mem), ih23 x1 x2 x3 M = some (MO, vo) → At p l e (rmO 4 0 0) s m args below meth c 0 0 (MQ below (Qg G kd ad s.heap.size MO (some (.int vo))) args s 0 0 (AS kd ad s.heap.size)) G kd ad 5 23 [(0, .ref (ad k0)), (1, .int x1), (2, .int x2), (3, .int x3)] [] M) : ∀ (x1 : Int32) (x2 : Int32) (x3 : Int32) (M : Mem), mX6_stuck_b73 k0 ih23 x1 x2 x3 M = some (MO, vo) → At p l e (rmO 4 0 0) s m args below meth c 0 0 (MQ below (Qg G kd ad s.heap.size MO (some (.int vo))) args s 0 0 (AS kd ad s.heap.size)) G kd ad 5 73 [(0, .ref (ad k0)), (1, .int x1), (2, .int x2), (3, .int x3)] [] M := by
  intro x1 x2 x3 M hf H locs ls hI hl
  obtain ⟨hx, hb, hml, hr, hown, hts, hlk, hK, hap, hsx⟩ := id C
  unfold mX6_stuck_b73 at hf
  obtain ⟨x3_73, e10, hf⟩ := bnd_s hf
  refine lv_iinc (v := x3_73) (lv' := [(3, .int x3_73), (0, .ref (ad k0)), (1, .int x1), (2, .int x2)]) hx hb (dc tbX6_stuck_1_k 1 rfl) hl (k := 3) rfl (ii_e e10 ic_1) (by decide) rfl (fun ls hl => ?_)
  refine lv_goto (tgt := 23) hx hb (dc tbX6_stuck_1_k 2 rfl) rfl ?_
  exact hih23 x1 x2 x3_73 M hf _ _ _ hI (lv_sub hl [1, 2, 3, 0] rfl)
def mX6_stuck_b53 (k0 : Nat) (ih23 : Int32 → Int32 → Int32 → Mem → Option (Mem × Int32)) (x1 : Int32) (x2 : Int32) (x3 : Int32) (y0 : Int32) (M : Mem) : Option (Mem × Int32) := ite2 (y0 = 0) (ite2 (((x1 >>> (((2 : Int32) * x3) &&& 31)) &&& (3 : Int32)) = 0) (bnd (x2 + (1 : Int32)) (fun x2_70 => mX6_stuck_b73 k0 ih23 x1 x2_70 x3 M)) (mX6_stuck_b73 k0 ih23 x1 x2 x3 M)) (mX6_stuck_b73 k0 ih23 x1 x2 x3 M)
set_option maxHeartbeats 4000000 in
set_option maxRecDepth 100000 in
theorem tX6_stuck_b53 {p : Program} {l : Launch} {e : Env} {s : State} {m : MethodId} {args : Array Value} {below : List Frame} {meth : Method} {c : Code} {G : GT} {kd : Nat → Nat × Nat} {ad : Nat → Nat} (C : Cx p s m args meth c cX6_stuck 5 (some .int) RX6 G kd ad) {k0 : Nat} (hk0 : kRoot kd k0) {MO : Mem} {vo : Int32} {ih23 : Int32 → Int32 → Int32 → Mem → Option (Mem × Int32)} (hih23 : ∀ (x1 : Int32) (x2 : Int32) (x3 : Int32) (M : Mem), ih23 x1 x2 x3 M = some (MO, vo) → At p l e (rmO 4 0 0) s m args below meth c 0 0 (MQ below (Qg G kd ad s.heap.size MO (some (.int vo))) args s 0 0 (AS kd ad s.heap.size)) G kd ad 5 23 [(0, .ref (ad k0)), (1, .int x1), (2, .int x2), (3, .int x3)] [] M) : ∀ (x1 : Int32) (x2 : Int32) (x3 : Int32) (y0 : Int32) (M : Mem), mX6_stuck_b53 k0 ih23 x1 x2 x3 y0 M = some (MO, vo) → At p l e (rmO 4 0 0) s m args below meth c 0 0 (MQ below (Qg G kd ad s.heap.size MO (some (.int vo))) args s 0 0 (AS kd ad s.heap.size)) G kd ad 5 53 [(0, .ref (ad k0)), (1, .int x1), (2, .int x2), (3, .int x3)] [.int y0] M := by
  intro x1 x2 x3 y0 M hf H locs ls hI hl
  obtain ⟨hx, hb, hml, hr, hown, hts, hlk, hK, hap, hsx⟩ := id C
  unfold mX6_stuck_b53 at hf
  refine lv_istore (lv' := [(4, .int y0), (0, .ref (ad k0)), (1, .int x1), (2, .int x2), (3, .int x3)]) hx hb (dc tbX6_stuck_0_k 29 rfl) hl (by decide) rfl (fun ls hl => ?_)
  refine lv_iload hx hb (dc tbX6_stuck_0_k 30 rfl) (lv_at hl 0 rfl) ?_
  refine lv_if_ne (tgt := 73) hx hb (dc tbX6_stuck_0_k 31 rfl) rfl (fun c9 => ?_) (fun c9 => ?_)
  · have hf := ite_f c9 hf
    exact tX6_stuck_b73 C hk0 hih23 x1 x2 x3 M hf _ _ _ hI (lv_sub hl [1, 2, 3, 4] rfl)
  · have hf := ite_t c9 hf
    refine lv_iload_n hx hb (dc tbX6_stuck_0_k 32 rfl) rfl (lv_at hl 2 rfl) ?_
    refine lv_iconst (v := 2) hx hb (dc tbX6_stuck_0_k 33 rfl) ic_2 ?_
    refine lv_iload_n hx hb (dc tbX6_stuck_0_k 34 rfl) rfl (lv_at hl 4 rfl) ?_
    refine lv_imul hx hb (dc tbX6_stuck_0_k 35 rfl) ?_
    refine lv_ishr hx hb (dc tbX6_stuck_0_k 36 rfl) ?_
    refine lv_iconst (v := 3) hx hb (dc tbX6_stuck_0_k 37 rfl) ic_3 ?_
    refine lv_iand hx hb (dc tbX6_stuck_0_k 38 rfl) ?_
    refine lv_if_ne (tgt := 73) hx hb (dc tbX6_stuck_0_k 39 rfl) rfl (fun c11 => ?_) (fun c11 => ?_)
    · have hf := ite_f c11 hf
      exact tX6_stuck_b73 C hk0 hih23 x1 x2 x3 M hf _ _ _ hI (lv_sub hl [1, 2, 3, 4] rfl)
    · have hf := ite_t c11 hf
      obtain ⟨x2_70, e12, hf⟩ := bnd_s hf
      refine lv_iinc (v := x2_70) (lv' := [(2, .int x2_70), (4, .int y0), (0, .ref (ad k0)), (1, .int x1), (3, .int x3)]) hx hb (dc tbX6_stuck_1_k 0 rfl) hl (k := 3) rfl (ii_e e12 ic_1) (by decide) rfl (fun ls hl => ?_)
      exact tX6_stuck_b73 C hk0 hih23 x1 x2_70 x3 M hf _ _ _ hI (lv_sub hl [2, 3, 0, 4] rfl)
def mX6_stuck_b23 (k0 : Nat) (ih23 : Int32 → Int32 → Int32 → Mem → Option (Mem × Int32)) (x1 : Int32) (x2 : Int32) (x3 : Int32) (M : Mem) : Option (Mem × Int32) := cap (mX1_bendCount 5 M) (fun r5 => ite2 (r5 ≤ x3) (some (M, x2)) (ite2 ((((rd M 5 13) >>> (x3 &&& 31)) &&& (1 : Int32)) = 0) (mX6_stuck_b53 k0 ih23 x1 x2 x3 (0 : Int32) M) (mX6_stuck_b53 k0 ih23 x1 x2 x3 (1 : Int32) M)))
set_option maxHeartbeats 4000000 in
set_option maxRecDepth 100000 in
theorem tX6_stuck_b23 {p : Program} {l : Launch} {e : Env} {s : State} {m : MethodId} {args : Array Value} {below : List Frame} {meth : Method} {c : Code} {G : GT} {kd : Nat → Nat × Nat} {ad : Nat → Nat} (C : Cx p s m args meth c cX6_stuck 5 (some .int) RX6 G kd ad) {k0 : Nat} (hk0 : kRoot kd k0) {MO : Mem} {vo : Int32} {ih23 : Int32 → Int32 → Int32 → Mem → Option (Mem × Int32)} (hih23 : ∀ (x1 : Int32) (x2 : Int32) (x3 : Int32) (M : Mem), ih23 x1 x2 x3 M = some (MO, vo) → At p l e (rmO 4 0 0) s m args below meth c 0 0 (MQ below (Qg G kd ad s.heap.size MO (some (.int vo))) args s 0 0 (AS kd ad s.heap.size)) G kd ad 5 23 [(0, .ref (ad k0)), (1, .int x1), (2, .int x2), (3, .int x3)] [] M) : ∀ (x1 : Int32) (x2 : Int32) (x3 : Int32) (M : Mem), mX6_stuck_b23 k0 ih23 x1 x2 x3 M = some (MO, vo) → At p l e (rmO 4 0 0) s m args below meth c 0 0 (MQ below (Qg G kd ad s.heap.size MO (some (.int vo))) args s 0 0 (AS kd ad s.heap.size)) G kd ad 5 23 [(0, .ref (ad k0)), (1, .int x1), (2, .int x2), (3, .int x3)] [] M := by
  intro x1 x2 x3 M hf H locs ls hI hl
  obtain ⟨hx, hb, hml, hr, hown, hts, hlk, hK, hap, hsx⟩ := id C
  unfold mX6_stuck_b23 at hf
  refine lv_iload_n hx hb (dc tbX6_stuck_0_k 13 rfl) rfl (lv_at hl 3 rfl) ?_
  refine lv_aload_n hx hb (dc tbX6_stuck_0_k 14 rfl) rfl (lv_at hl 0 rfl) ?_
  refine gg6_3 hx hb hts hown hK hI hk0.1 q_t2_85 (dc tbX6_stuck_0_k 15 rfl) ?_
  obtain ⟨r5, q4, hf⟩ := cap_s hf
  refine g_callVi hx hb hml hown hts hK hap hsx hI (tX1_bendCount l hk0.2.2.2.1 q4 H.size) cv_X1_bendCount q_t2_130 rfl rfl ⟨Nat.le_of_ble_eq_true rfl, Nat.le_of_ble_eq_true rfl⟩ hk0.2.2.2.1.1 (by simp) rfl rfl rfl hl.1 rfl (Nat.le_of_ble_eq_true rfl) (dc tbX6_stuck_0_k 16 rfl) ⟨Nat.le_of_ble_eq_true rfl, Nat.le_of_ble_eq_true rfl⟩ (fun H locs hI => ?_)
  refine lv_icmp_ge (tgt := 79) hx hb (dc tbX6_stuck_0_k 17 rfl) rfl (fun c7 => ?_) (fun c7 => ?_)
  · have hf := ite_t c7 hf
    refine lv_iload_n hx hb (dc tbX6_stuck_1_k 3 rfl) rfl (lv_at hl 2 rfl) ?_
    cases hf
    exact g_iret hx hb hr hlk hI (dc tbX6_stuck_1_k 4 rfl)
  · have hf := ite_f c7 hf
    refine lv_aload_n hx hb (dc tbX6_stuck_0_k 18 rfl) rfl (lv_at hl 0 rfl) ?_
    refine gg6_3 hx hb hts hown hK hI hk0.1 q_t2_85 (dc tbX6_stuck_0_k 19 rfl) ?_
    refine gg1_13 hx hb hts hown hK hI hk0.2.2.2.1.1 q_t1_128 (dc tbX6_stuck_0_k 20 rfl) ?_
    refine lv_iload_n hx hb (dc tbX6_stuck_0_k 21 rfl) rfl (lv_at hl 3 rfl) ?_
    refine lv_ishr hx hb (dc tbX6_stuck_0_k 22 rfl) ?_
    refine lv_iconst (v := 1) hx hb (dc tbX6_stuck_0_k 23 rfl) ic_1 ?_
    refine lv_iand hx hb (dc tbX6_stuck_0_k 24 rfl) ?_
    refine lv_if_eq (tgt := 52) hx hb (dc tbX6_stuck_0_k 25 rfl) rfl (fun c8 => ?_) (fun c8 => ?_)
    · have hf := ite_t c8 hf
      refine lv_iconst (v := 0) hx hb (dc tbX6_stuck_0_k 28 rfl) ic_0 ?_
      exact tX6_stuck_b53 C hk0 hih23 x1 x2 x3 (0 : Int32) M hf _ _ _ hI (lv_sub hl [0, 1, 2, 3] rfl)
    · have hf := ite_f c8 hf
      refine lv_iconst (v := 1) hx hb (dc tbX6_stuck_0_k 26 rfl) ic_1 ?_
      refine lv_goto (tgt := 53) hx hb (dc tbX6_stuck_0_k 27 rfl) rfl ?_
      exact tX6_stuck_b53 C hk0 hih23 x1 x2 x3 (1 : Int32) M hf _ _ _ hI (lv_sub hl [0, 1, 2, 3] rfl)
def mX6_stuck_l23 (k0 : Nat) : Nat → Int32 → Int32 → Int32 → Mem → Option (Mem × Int32)
  | 0 => fun _ _ _ _ => none
  | n + 1 => mX6_stuck_b23 k0 (mX6_stuck_l23 k0 n)
theorem tX6_stuck_l23 {p : Program} {l : Launch} {e : Env} {s : State} {m : MethodId} {args : Array Value} {below : List Frame} {meth : Method} {c : Code} {G : GT} {kd : Nat → Nat × Nat} {ad : Nat → Nat} (C : Cx p s m args meth c cX6_stuck 5 (some .int) RX6 G kd ad) {k0 : Nat} (hk0 : kRoot kd k0) {MO : Mem} {vo : Int32}   : ∀ (fuel : Nat) (x1 : Int32) (x2 : Int32) (x3 : Int32) (M : Mem), mX6_stuck_l23 k0 fuel x1 x2 x3 M = some (MO, vo) → At p l e (rmO 4 0 0) s m args below meth c 0 0 (MQ below (Qg G kd ad s.heap.size MO (some (.int vo))) args s 0 0 (AS kd ad s.heap.size)) G kd ad 5 23 [(0, .ref (ad k0)), (1, .int x1), (2, .int x2), (3, .int x3)] [] M := by
  intro fuel
  induction fuel with
  | zero => intro x1 x2 x3 M hf; cases hf
  | succ n IH => exact tX6_stuck_b23 C hk0 IH
def mX6_stuck (k0 : Nat) (M : Mem) : Option (Mem × Int32) := cal (mX2_possibleSteps 103 5 (rd M 5 13) M) (fun M3 r2 => mX6_stuck_l23 k0 5000 r2 (0 : Int32) (0 : Int32) M3)
set_option maxHeartbeats 4000000 in
set_option maxRecDepth 100000 in
theorem tX6_stuck (l : Launch) {G : GT} {kd : Nat → Nat × Nat} {ad : Nat → Nat} {k0 : Nat} (hk0 : kRoot kd k0) {M : Mem} {MO : Mem} {vo : Int32} (hf : mX6_stuck k0 M = some (MO, vo)) (n : Nat) : Met l yX6_stuck (Cond.code yX6_stuck cX6_stuck 5 (some .int) :: WA) (rmO 4 0 0) (Pg G kd ad n [.ref (ad k0)] M) (Qg G kd ad n MO (some (.int vo))) 0 0 (AS kd ad n) := by
  refine g_body (own := RX6) (by decide) rfl ?_ (Nat.le_of_ble_eq_true rfl)
  intro p e s m args below meth c C _ H locs ls hI hl
  obtain ⟨hx, hb, hml, hr, hown, hts, hlk, hK, hap, hsx⟩ := id C
  have hl : lv_has ls 5 [(0, .ref (ad k0))] := hl
  unfold mX6_stuck at hf
  refine lv_aload_n hx hb (dc tbX6_stuck_0_k 0 rfl) rfl (lv_at hl 0 rfl) ?_
  refine gg6_6 hx hb hts hown hK hI hk0.1 q_t2_88 (dc tbX6_stuck_0_k 1 rfl) ?_
  refine lv_aload_n hx hb (dc tbX6_stuck_0_k 2 rfl) rfl (lv_at hl 0 rfl) ?_
  refine gg6_3 hx hb hts hown hK hI hk0.1 q_t2_85 (dc tbX6_stuck_0_k 3 rfl) ?_
  refine lv_aload_n hx hb (dc tbX6_stuck_0_k 4 rfl) rfl (lv_at hl 0 rfl) ?_
  refine gg6_3 hx hb hts hown hK hI hk0.1 q_t2_85 (dc tbX6_stuck_0_k 5 rfl) ?_
  refine gg1_13 hx hb hts hown hK hI hk0.2.2.2.1.1 q_t1_128 (dc tbX6_stuck_0_k 6 rfl) ?_
  obtain ⟨M3, r2, q1, hf⟩ := cal_s hf
  refine g_callVi hx hb hml hown hts hK hap hsx hI (tX2_possibleSteps l hk0.2.2.2.2.2.2.1 hk0.2.2.2.1 q1 H.size) cv_X2_possibleSteps q_t3_20 rfl rfl ⟨Nat.le_of_ble_eq_true rfl, Nat.le_of_ble_eq_true rfl⟩ hk0.2.2.2.2.2.2.1.1 (by simp) rfl rfl rfl hl.1 rfl (Nat.le_of_ble_eq_true rfl) (dc tbX6_stuck_0_k 7 rfl) ⟨Nat.le_of_ble_eq_true rfl, Nat.le_of_ble_eq_true rfl⟩ (fun H locs hI => ?_)
  refine lv_istore_n (lv' := [(1, .int r2), (0, .ref (ad k0))]) hx hb (dc tbX6_stuck_0_k 8 rfl) rfl hl (by decide) rfl (fun ls hl => ?_)
  refine lv_iconst (v := 0) hx hb (dc tbX6_stuck_0_k 9 rfl) ic_0 ?_
  refine lv_istore_n (lv' := [(2, .int (0 : Int32)), (1, .int r2), (0, .ref (ad k0))]) hx hb (dc tbX6_stuck_0_k 10 rfl) rfl hl (by decide) rfl (fun ls hl => ?_)
  refine lv_iconst (v := 0) hx hb (dc tbX6_stuck_0_k 11 rfl) ic_0 ?_
  refine lv_istore_n (lv' := [(3, .int (0 : Int32)), (2, .int (0 : Int32)), (1, .int r2), (0, .ref (ad k0))]) hx hb (dc tbX6_stuck_0_k 12 rfl) rfl hl (by decide) rfl (fun ls hl => ?_)
  exact tX6_stuck_l23 C hk0 5000 r2 (0 : Int32) (0 : Int32) M3 hf _ _ _ hI (lv_sub hl [3, 2, 1, 0] rfl)
theorem cv_X6_stuck : cvF RX6 yX6_stuck cX6_stuck 5 (some .int) 0 := ⟨q_t3_52, q_t3_53, q_t1_1, q_t3_54, by decide +kernel⟩
def mX6_costNow (k0 : Nat) (x1 : Int32) (M : Mem) : Option (Mem × Int32) := cap (mX1_lastCode 5 M) (fun r2 => cap (mX1_lastGauge 5 M) (fun r5 => cal (mX6_gaugeNow k0 x1 M) (fun M9 r8 => cap (mX1_priceBetween 5 r2 r5 x1 r8 M9) (fun r11 => some (M9, r11)))))
set_option maxHeartbeats 4000000 in
set_option maxRecDepth 100000 in
theorem tX6_costNow (l : Launch) {G : GT} {kd : Nat → Nat × Nat} {ad : Nat → Nat} {k0 : Nat} (hk0 : kRoot kd k0) {x1 : Int32} {M : Mem} {MO : Mem} {vo : Int32} (hf : mX6_costNow k0 x1 M = some (MO, vo)) (n : Nat) : Met l yX6_costNow (Cond.code yX6_costNow cX6_costNow 2 (some .int) :: WA) (rmO 3 0 0) (Pg G kd ad n [.ref (ad k0), .int x1] M) (Qg G kd ad n MO (some (.int vo))) 0 0 (AS kd ad n) := by
  refine g_body (own := RX6) (by decide) rfl ?_ (Nat.le_of_ble_eq_true rfl)
  intro p e s m args below meth c C _ H locs ls hI hl
  obtain ⟨hx, hb, hml, hr, hown, hts, hlk, hK, hap, hsx⟩ := id C
  have hl : lv_has ls 2 [(0, .ref (ad k0)), (1, .int x1)] := hl
  unfold mX6_costNow at hf
  refine lv_aload_n hx hb (dc tbX6_costNow_k 0 rfl) rfl (lv_at hl 0 rfl) ?_
  refine gg6_3 hx hb hts hown hK hI hk0.1 q_t2_85 (dc tbX6_costNow_k 1 rfl) ?_
  refine lv_aload_n hx hb (dc tbX6_costNow_k 2 rfl) rfl (lv_at hl 0 rfl) ?_
  refine gg6_3 hx hb hts hown hK hI hk0.1 q_t2_85 (dc tbX6_costNow_k 3 rfl) ?_
  obtain ⟨r2, q1, hf⟩ := cap_s hf
  refine g_callVi hx hb hml hown hts hK hap hsx hI (tX1_lastCode l hk0.2.2.2.1 q1 H.size) cv_X1_lastCode q_t6_164 rfl rfl ⟨Nat.le_of_ble_eq_true rfl, Nat.le_of_ble_eq_true rfl⟩ hk0.2.2.2.1.1 (by simp) rfl rfl rfl hl.1 rfl (Nat.le_of_ble_eq_true rfl) (dc tbX6_costNow_k 4 rfl) ⟨Nat.le_of_ble_eq_true rfl, Nat.le_of_ble_eq_true rfl⟩ (fun H locs hI => ?_)
  refine lv_aload_n hx hb (dc tbX6_costNow_k 5 rfl) rfl (lv_at hl 0 rfl) ?_
  refine gg6_3 hx hb hts hown hK hI hk0.1 q_t2_85 (dc tbX6_costNow_k 6 rfl) ?_
  obtain ⟨r5, q4, hf⟩ := cap_s hf
  refine g_callVi hx hb hml hown hts hK hap hsx hI (tX1_lastGauge l hk0.2.2.2.1 q4 H.size) cv_X1_lastGauge q_t6_165 rfl rfl ⟨Nat.le_of_ble_eq_true rfl, Nat.le_of_ble_eq_true rfl⟩ hk0.2.2.2.1.1 (by simp) rfl rfl rfl hl.1 rfl (Nat.le_of_ble_eq_true rfl) (dc tbX6_costNow_k 7 rfl) ⟨Nat.le_of_ble_eq_true rfl, Nat.le_of_ble_eq_true rfl⟩ (fun H locs hI => ?_)
  refine lv_iload_n hx hb (dc tbX6_costNow_k 8 rfl) rfl (lv_at hl 1 rfl) ?_
  refine lv_aload_n hx hb (dc tbX6_costNow_k 9 rfl) rfl (lv_at hl 0 rfl) ?_
  refine lv_iload_n hx hb (dc tbX6_costNow_k 10 rfl) rfl (lv_at hl 1 rfl) ?_
  obtain ⟨M9, r8, q7, hf⟩ := cal_s hf
  refine g_callVi hx hb hml hown hts hK hap hsx hI (tX6_gaugeNow l hk0 q7 H.size) cv_X6_gaugeNow q_t6_113 rfl rfl ⟨Nat.le_of_ble_eq_true rfl, Nat.le_of_ble_eq_true rfl⟩ hk0.1 (by simp) rfl rfl rfl hl.1 rfl (Nat.le_of_ble_eq_true rfl) (dc tbX6_costNow_k 11 rfl) ⟨Nat.le_of_ble_eq_true rfl, Nat.le_of_ble_eq_true rfl⟩ (fun H locs hI => ?_)
  obtain ⟨r11, q10, hf⟩ := cap_s hf
  refine g_callVi hx hb hml hown hts hK hap hsx hI (tX1_priceBetween l hk0.2.2.2.1 q10 H.size) cv_X1_priceBetween q_t6_166 rfl rfl ⟨Nat.le_of_ble_eq_true rfl, Nat.le_of_ble_eq_true rfl⟩ hk0.2.2.2.1.1 (by simp) rfl rfl rfl hl.1 rfl (Nat.le_of_ble_eq_true rfl) (dc tbX6_costNow_k 12 rfl) ⟨Nat.le_of_ble_eq_true rfl, Nat.le_of_ble_eq_true rfl⟩ (fun H locs hI => ?_)
  cases hf
  exact g_iret hx hb hr hlk hI (dc tbX6_costNow_k 13 rfl)
theorem cv_X6_costNow : cvF RX6 yX6_costNow cX6_costNow 2 (some .int) 1 := ⟨q_t6_162, q_s3_0, q_t1_1, q_t6_163, by decide +kernel⟩
def mX6_costOf (k0 : Nat) (x1 : Int32) (x2 : Int32) (M : Mem) : Option (Mem × (Int32 ⊕ Nat)) := calx (mX6_requireStep k0 x1 x2 M) (fun M3 _ => cal (mX6_costNow k0 (((2 : Int32) * x1) + x2) M3) (fun M7 r6 => some (M7, Sum.inl r6)))
set_option maxHeartbeats 4000000 in
set_option maxRecDepth 100000 in
theorem tX6_costOf (l : Launch) (hst : l.stackTraces = false) {G : GT} {kd : Nat → Nat × Nat} {ad : Nat → Nat} {k0 : Nat} (hk0 : kRoot kd k0) {x1 : Int32} {x2 : Int32} {M : Mem} {MO : Mem} {vo : Int32 ⊕ Nat} (hf : mX6_costOf k0 x1 x2 M = some (MO, vo)) (n : Nat) : vx_Met l yX6_costOf (Cond.code yX6_costOf cX6_costOf 3 (some .int) :: WA) (rmO 4 2 12) (Pg G kd ad n [.ref (ad k0), .int x1, .int x2] M) (Qx G kd ad n MO (zi vo)) (Xx G kd ad n MO (zi vo)) 2 12 (AS kd ad n) := by
  refine g_bodyX (own := RX6) (by decide) rfl ?_ (Nat.le_of_ble_eq_true rfl)
  intro p e s m args below meth c C htb _ H locs ls hI hl
  obtain ⟨hx, hb, hml, hr, hown, hts, hlk, hK, hap, hsx⟩ := id C
  have hl : lv_has ls 3 [(0, .ref (ad k0)), (1, .int x1), (2, .int x2)] := hl
  unfold mX6_costOf at hf
  refine lv_aload_n hx hb (dc tbX6_costOf_k 0 rfl) rfl (lv_at hl 0 rfl) ?_
  refine lv_iload_n hx hb (dc tbX6_costOf_k 1 rfl) rfl (lv_at hl 1 rfl) ?_
  refine lv_iload_n hx hb (dc tbX6_costOf_k 2 rfl) rfl (lv_at hl 2 rfl) ?_
  rcases calx_s hf with ⟨M3, r2, q1, hf⟩ | ⟨e4, q1, rfl⟩
  · refine x_callRv (g_runXV hx hb hml hown hts hK hap hsx hI (tX6_requireStep l hst hk0 q1 H.size) cv_X6_requireStep q_t6_97 rfl rfl ⟨Nat.le_of_ble_eq_true rfl, Nat.le_of_ble_eq_true rfl⟩ hk0.1 (by simp) rfl rfl rfl hl.1 rfl (Nat.le_of_ble_eq_true rfl) (dc tbX6_costOf_k 3 rfl) ⟨Nat.le_of_ble_eq_true rfl, Nat.le_of_ble_eq_true rfl⟩) hI (fun H locs hI => ?_)
    refine lv_aload_n hx hb (dc tbX6_costOf_k 4 rfl) rfl (lv_at hl 0 rfl) ?_
    refine lv_iconst (v := 2) hx hb (dc tbX6_costOf_k 5 rfl) ic_2 ?_
    refine lv_iload_n hx hb (dc tbX6_costOf_k 6 rfl) rfl (lv_at hl 1 rfl) ?_
    refine lv_imul hx hb (dc tbX6_costOf_k 7 rfl) ?_
    refine lv_iload_n hx hb (dc tbX6_costOf_k 8 rfl) rfl (lv_at hl 2 rfl) ?_
    refine lv_iadd hx hb (dc tbX6_costOf_k 9 rfl) ?_
    obtain ⟨M7, r6, q5, hf⟩ := cal_s hf
    refine g_callVi hx hb hml hown hts hK hap hsx hI (tX6_costNow l hk0 q5 H.size) cv_X6_costNow q_t6_160 rfl rfl ⟨Nat.le_of_ble_eq_true rfl, Nat.le_of_ble_eq_true rfl⟩ hk0.1 (by simp) rfl rfl rfl hl.1 rfl (Nat.le_of_ble_eq_true rfl) (dc tbX6_costOf_k 10 rfl) ⟨Nat.le_of_ble_eq_true rfl, Nat.le_of_ble_eq_true rfl⟩ (fun H locs hI => ?_)
    cases hf
    exact x_ret (g_iret hx hb hr hlk hI (dc tbX6_costOf_k 11 rfl))
  · exact x_callT (g_runXV hx hb hml hown hts hK hap hsx hI (tX6_requireStep l hst hk0 q1 H.size) cv_X6_requireStep q_t6_97 rfl rfl ⟨Nat.le_of_ble_eq_true rfl, Nat.le_of_ble_eq_true rfl⟩ hk0.1 (by simp) rfl rfl rfl hl.1 rfl (Nat.le_of_ble_eq_true rfl) (dc tbX6_costOf_k 3 rfl) ⟨Nat.le_of_ble_eq_true rfl, Nat.le_of_ble_eq_true rfl⟩) hI htb hlk (Nat.le_of_ble_eq_true rfl) (Nat.le_of_ble_eq_true rfl)
theorem cv_X6_costOf : cvF RX6 yX6_costOf cX6_costOf 3 (some .int) 2 := ⟨q_t6_157, q_t6_158, q_t1_1, q_t6_159, by decide +kernel⟩
def mX6_orders (k0 : Nat) (M : Mem) : Option (Mem × Int64) := cal (mX3_prepare 110 5 M) (fun M3 _ => cap (mX3_ordersFrom 110 (rd M3 5 13) M3) (fun r5 => some (M3, r5)))
set_option maxHeartbeats 4000000 in
set_option maxRecDepth 100000 in
theorem tX6_orders (l : Launch) {G : GT} {kd : Nat → Nat × Nat} {ad : Nat → Nat} {k0 : Nat} (hk0 : kRoot kd k0) {M : Mem} {MO : Mem} {vo : Int64} (hf : mX6_orders k0 M = some (MO, vo)) (n : Nat) : Met l yX6_orders (Cond.code yX6_orders cX6_orders 1 (some .long) :: WA) (rmO 7 0 0) (Pg G kd ad n [.ref (ad k0)] M) (Qg G kd ad n MO (some (.long vo))) 0 0 (AS kd ad n) := by
  refine g_body (own := RX6) (by decide) rfl ?_ (Nat.le_of_ble_eq_true rfl)
  intro p e s m args below meth c C _ H locs ls hI hl
  obtain ⟨hx, hb, hml, hr, hown, hts, hlk, hK, hap, hsx⟩ := id C
  have hl : lv_has ls 1 [(0, .ref (ad k0))] := hl
  unfold mX6_orders at hf
  refine lv_aload_n hx hb (dc tbX6_orders_k 0 rfl) rfl (lv_at hl 0 rfl) ?_
  refine gg6_7 hx hb hts hown hK hI hk0.1 q_t2_89 (dc tbX6_orders_k 1 rfl) ?_
  refine lv_aload_n hx hb (dc tbX6_orders_k 2 rfl) rfl (lv_at hl 0 rfl) ?_
  refine gg6_3 hx hb hts hown hK hI hk0.1 q_t2_85 (dc tbX6_orders_k 3 rfl) ?_
  obtain ⟨M3, r2, q1, hf⟩ := cal_s hf
  refine g_callVv hx hb hml hown hts hK hap hsx hI (tX3_prepare l hk0.2.2.2.2.2.2.2 hk0.2.2.2.1 q1 H.size) cv_X3_prepare q_t3_59 rfl rfl ⟨Nat.le_of_ble_eq_true rfl, Nat.le_of_ble_eq_true rfl⟩ hk0.2.2.2.2.2.2.2.1 (by simp) rfl rfl rfl hl.1 rfl (Nat.le_of_ble_eq_true rfl) (dc tbX6_orders_k 4 rfl) ⟨Nat.le_of_ble_eq_true rfl, Nat.le_of_ble_eq_true rfl⟩ (fun H locs hI => ?_)
  refine lv_aload_n hx hb (dc tbX6_orders_k 5 rfl) rfl (lv_at hl 0 rfl) ?_
  refine gg6_7 hx hb hts hown hK hI hk0.1 q_t2_89 (dc tbX6_orders_k 6 rfl) ?_
  refine lv_aload_n hx hb (dc tbX6_orders_k 7 rfl) rfl (lv_at hl 0 rfl) ?_
  refine gg6_3 hx hb hts hown hK hI hk0.1 q_t2_85 (dc tbX6_orders_k 8 rfl) ?_
  refine gg1_13 hx hb hts hown hK hI hk0.2.2.2.1.1 q_t1_128 (dc tbX6_orders_k 9 rfl) ?_
  obtain ⟨r5, q4, hf⟩ := cap_s hf
  refine g_callVl hx hb hml hown hts hK hap hsx hI (tX3_ordersFrom l hk0.2.2.2.2.2.2.2 q4 H.size) cv_X3_ordersFrom q_t3_139 rfl rfl ⟨Nat.le_of_ble_eq_true rfl, Nat.le_of_ble_eq_true rfl⟩ hk0.2.2.2.2.2.2.2.1 (by simp) rfl rfl rfl hl.1 rfl (Nat.le_of_ble_eq_true rfl) (dc tbX6_orders_k 10 rfl) ⟨Nat.le_of_ble_eq_true rfl, Nat.le_of_ble_eq_true rfl⟩ (fun H locs hI => ?_)
  cases hf
  exact g_lret hx hb hr hlk hI (dc tbX6_orders_k 11 rfl)
theorem cv_X6_orders : cvF RX6 yX6_orders cX6_orders 1 (some .long) 0 := ⟨q_t3_56, q_t3_57, q_t1_1, q_t3_58, by decide +kernel⟩
def mX6_leastCost (k0 : Nat) (M : Mem) : Option (Mem × Int32) := cal (mX3_prepare 110 5 M) (fun M3 _ => some (M3, (rd M3 110 0)))
set_option maxHeartbeats 4000000 in
set_option maxRecDepth 100000 in
theorem tX6_leastCost (l : Launch) {G : GT} {kd : Nat → Nat × Nat} {ad : Nat → Nat} {k0 : Nat} (hk0 : kRoot kd k0) {M : Mem} {MO : Mem} {vo : Int32} (hf : mX6_leastCost k0 M = some (MO, vo)) (n : Nat) : Met l yX6_leastCost (Cond.code yX6_leastCost cX6_leastCost 1 (some .int) :: WA) (rmO 7 0 0) (Pg G kd ad n [.ref (ad k0)] M) (Qg G kd ad n MO (some (.int vo))) 0 0 (AS kd ad n) := by
  refine g_body (own := RX6) (by decide) rfl ?_ (Nat.le_of_ble_eq_true rfl)
  intro p e s m args below meth c C _ H locs ls hI hl
  obtain ⟨hx, hb, hml, hr, hown, hts, hlk, hK, hap, hsx⟩ := id C
  have hl : lv_has ls 1 [(0, .ref (ad k0))] := hl
  unfold mX6_leastCost at hf
  refine lv_aload_n hx hb (dc tbX6_leastCost_k 0 rfl) rfl (lv_at hl 0 rfl) ?_
  refine gg6_7 hx hb hts hown hK hI hk0.1 q_t2_89 (dc tbX6_leastCost_k 1 rfl) ?_
  refine lv_aload_n hx hb (dc tbX6_leastCost_k 2 rfl) rfl (lv_at hl 0 rfl) ?_
  refine gg6_3 hx hb hts hown hK hI hk0.1 q_t2_85 (dc tbX6_leastCost_k 3 rfl) ?_
  obtain ⟨M3, r2, q1, hf⟩ := cal_s hf
  refine g_callVv hx hb hml hown hts hK hap hsx hI (tX3_prepare l hk0.2.2.2.2.2.2.2 hk0.2.2.2.1 q1 H.size) cv_X3_prepare q_t3_59 rfl rfl ⟨Nat.le_of_ble_eq_true rfl, Nat.le_of_ble_eq_true rfl⟩ hk0.2.2.2.2.2.2.2.1 (by simp) rfl rfl rfl hl.1 rfl (Nat.le_of_ble_eq_true rfl) (dc tbX6_leastCost_k 4 rfl) ⟨Nat.le_of_ble_eq_true rfl, Nat.le_of_ble_eq_true rfl⟩ (fun H locs hI => ?_)
  refine lv_aload_n hx hb (dc tbX6_leastCost_k 5 rfl) rfl (lv_at hl 0 rfl) ?_
  refine gg6_7 hx hb hts hown hK hI hk0.1 q_t2_89 (dc tbX6_leastCost_k 6 rfl) ?_
  refine gg3_0 hx hb hts hown hK hI hk0.2.2.2.2.2.2.2.1 q_t2_5 (dc tbX6_leastCost_k 7 rfl) ?_
  cases hf
  exact g_iret hx hb hr hlk hI (dc tbX6_leastCost_k 8 rfl)
theorem cv_X6_leastCost : cvF RX6 yX6_leastCost cX6_leastCost 1 (some .int) 0 := ⟨q_t3_144, q_t3_145, q_t1_1, q_t3_146, by decide +kernel⟩
def mX6_plannedSteps (k0 : Nat) (M : Mem) : Option (Mem × Int32) := cal (mX3_prepare 110 5 M) (fun M3 _ => some (M3, (rd M3 110 3)))
set_option maxHeartbeats 4000000 in
set_option maxRecDepth 100000 in
theorem tX6_plannedSteps (l : Launch) {G : GT} {kd : Nat → Nat × Nat} {ad : Nat → Nat} {k0 : Nat} (hk0 : kRoot kd k0) {M : Mem} {MO : Mem} {vo : Int32} (hf : mX6_plannedSteps k0 M = some (MO, vo)) (n : Nat) : Met l yX6_plannedSteps (Cond.code yX6_plannedSteps cX6_plannedSteps 1 (some .int) :: WA) (rmO 7 0 0) (Pg G kd ad n [.ref (ad k0)] M) (Qg G kd ad n MO (some (.int vo))) 0 0 (AS kd ad n) := by
  refine g_body (own := RX6) (by decide) rfl ?_ (Nat.le_of_ble_eq_true rfl)
  intro p e s m args below meth c C _ H locs ls hI hl
  obtain ⟨hx, hb, hml, hr, hown, hts, hlk, hK, hap, hsx⟩ := id C
  have hl : lv_has ls 1 [(0, .ref (ad k0))] := hl
  unfold mX6_plannedSteps at hf
  refine lv_aload_n hx hb (dc tbX6_plannedSteps_k 0 rfl) rfl (lv_at hl 0 rfl) ?_
  refine gg6_7 hx hb hts hown hK hI hk0.1 q_t2_89 (dc tbX6_plannedSteps_k 1 rfl) ?_
  refine lv_aload_n hx hb (dc tbX6_plannedSteps_k 2 rfl) rfl (lv_at hl 0 rfl) ?_
  refine gg6_3 hx hb hts hown hK hI hk0.1 q_t2_85 (dc tbX6_plannedSteps_k 3 rfl) ?_
  obtain ⟨M3, r2, q1, hf⟩ := cal_s hf
  refine g_callVv hx hb hml hown hts hK hap hsx hI (tX3_prepare l hk0.2.2.2.2.2.2.2 hk0.2.2.2.1 q1 H.size) cv_X3_prepare q_t3_59 rfl rfl ⟨Nat.le_of_ble_eq_true rfl, Nat.le_of_ble_eq_true rfl⟩ hk0.2.2.2.2.2.2.2.1 (by simp) rfl rfl rfl hl.1 rfl (Nat.le_of_ble_eq_true rfl) (dc tbX6_plannedSteps_k 4 rfl) ⟨Nat.le_of_ble_eq_true rfl, Nat.le_of_ble_eq_true rfl⟩ (fun H locs hI => ?_)
  refine lv_aload_n hx hb (dc tbX6_plannedSteps_k 5 rfl) rfl (lv_at hl 0 rfl) ?_
  refine gg6_7 hx hb hts hown hK hI hk0.1 q_t2_89 (dc tbX6_plannedSteps_k 6 rfl) ?_
  refine gg3_3 hx hb hts hown hK hI hk0.2.2.2.2.2.2.2.1 q_t2_11 (dc tbX6_plannedSteps_k 7 rfl) ?_
  cases hf
  exact g_iret hx hb hr hlk hI (dc tbX6_plannedSteps_k 8 rfl)
theorem cv_X6_plannedSteps : cvF RX6 yX6_plannedSteps cX6_plannedSteps 1 (some .int) 0 := ⟨q_t3_148, q_t3_149, q_t1_1, q_t3_150, by decide +kernel⟩
def mX6_planned_b32 (k0 : Nat) (M : Mem) : Option (Mem × (Int32 ⊕ Nat)) := some (M, Sum.inr 1)
set_option maxHeartbeats 4000000 in
set_option maxRecDepth 100000 in
theorem tX6_planned_b32 {p : Program} {l : Launch} {e : Env} {s : State} {m : MethodId} {args : Array Value} {below : List Frame} {meth : Method} {c : Code} {G : GT} {kd : Nat → Nat × Nat} {ad : Nat → Nat} (C : Cx p s m args meth c cX6_planned 2 (some .int) RX6 G kd ad) (hst : l.stackTraces = false) (htb : ∀ x ∈ c.exceptionTable.toList, False) {k0 : Nat} (hk0 : kRoot kd k0) {MO : Mem} {vo : Int32 ⊕ Nat}   : ∀  (M : Mem), mX6_planned_b32 k0 M = some (MO, vo) → At p l e (rmO 7 1 6) s m args below meth c 0 0 (XQ G kd ad below args s MO (zi vo) 1 6) G kd ad 2 32 [] [] M := by
  intro M hf H locs ls hI hl
  obtain ⟨hx, hb, hml, hr, hown, hts, hlk, hK, hap, hsx⟩ := id C
  unfold mX6_planned_b32 at hf
  cases hf
  exact x_throw (text := "there is no such step of the best order") (e9 := 1) false hx hb hst hml hown hts hlk hsx htb (by decide +kernel) fit_n q_t6_19 q_t1_21 (by decide +kernel) at_ioo nb_ioo gd_ioo_176 rfl hI hl.1 (dc tbX6_planned_k 15 rfl) (dc tbX6_planned_k 16 rfl) (dc tbX6_planned_k 17 rfl) (dc tbX6_planned_k 18 rfl) (dc tbX6_planned_k 19 rfl) (Nat.le_of_ble_eq_true rfl) (Nat.le_of_ble_eq_true rfl) ⟨Nat.le_of_ble_eq_true rfl, Nat.le_of_ble_eq_true rfl⟩ (Nat.le_of_ble_eq_true rfl) (Nat.le_of_ble_eq_true rfl)
def mX6_planned (k0 : Nat) (x1 : Int32) (M : Mem) : Option (Mem × (Int32 ⊕ Nat)) := cal (mX3_prepare 110 5 M) (fun M3 _ => ite2 (x1 < 0) (mX6_planned_b32 k0 M3) (ite2 ((rd M3 110 3) ≤ x1) (mX6_planned_b32 k0 M3) (ite2 (x1 < (8 : Int32)) (chk (okb x1 8) (some (M3, Sum.inl (rd M3 (110 + 1) (x1).toNatClampNeg)))) (mX6_planned_b32 k0 M3))))
set_option maxHeartbeats 4000000 in
set_option maxRecDepth 100000 in
theorem tX6_planned (l : Launch) (hst : l.stackTraces = false) {G : GT} {kd : Nat → Nat × Nat} {ad : Nat → Nat} {k0 : Nat} (hk0 : kRoot kd k0) {x1 : Int32} {M : Mem} {MO : Mem} {vo : Int32 ⊕ Nat} (hf : mX6_planned k0 x1 M = some (MO, vo)) (n : Nat) : vx_Met l yX6_planned (Cond.code yX6_planned cX6_planned 2 (some .int) :: WA) (rmO 7 1 6) (Pg G kd ad n [.ref (ad k0), .int x1] M) (Qx G kd ad n MO (zi vo)) (Xx G kd ad n MO (zi vo)) 1 6 (AS kd ad n) := by
  refine g_bodyX (own := RX6) (by decide) rfl ?_ (Nat.le_of_ble_eq_true rfl)
  intro p e s m args below meth c C htb _ H locs ls hI hl
  obtain ⟨hx, hb, hml, hr, hown, hts, hlk, hK, hap, hsx⟩ := id C
  have hl : lv_has ls 2 [(0, .ref (ad k0)), (1, .int x1)] := hl
  unfold mX6_planned at hf
  refine lv_aload_n hx hb (dc tbX6_planned_k 0 rfl) rfl (lv_at hl 0 rfl) ?_
  refine gg6_7 hx hb hts hown hK hI hk0.1 q_t2_89 (dc tbX6_planned_k 1 rfl) ?_
  refine lv_aload_n hx hb (dc tbX6_planned_k 2 rfl) rfl (lv_at hl 0 rfl) ?_
  refine gg6_3 hx hb hts hown hK hI hk0.1 q_t2_85 (dc tbX6_planned_k 3 rfl) ?_
  obtain ⟨M3, r2, q1, hf⟩ := cal_s hf
  refine g_callVv hx hb hml hown hts hK hap hsx hI (tX3_prepare l hk0.2.2.2.2.2.2.2 hk0.2.2.2.1 q1 H.size) cv_X3_prepare q_t3_59 rfl rfl ⟨Nat.le_of_ble_eq_true rfl, Nat.le_of_ble_eq_true rfl⟩ hk0.2.2.2.2.2.2.2.1 (by simp) rfl rfl rfl hl.1 rfl (Nat.le_of_ble_eq_true rfl) (dc tbX6_planned_k 4 rfl) ⟨Nat.le_of_ble_eq_true rfl, Nat.le_of_ble_eq_true rfl⟩ (fun H locs hI => ?_)
  refine lv_iload_n hx hb (dc tbX6_planned_k 5 rfl) rfl (lv_at hl 1 rfl) ?_
  refine lv_if_lt (tgt := 32) hx hb (dc tbX6_planned_k 6 rfl) rfl (fun c4 => ?_) (fun c4 => ?_)
  · have hf := ite_t c4 hf
    exact tX6_planned_b32 C hst htb hk0 M3 hf _ _ _ hI (lv_sub hl [] rfl)
  · have hf := ite_f c4 hf
    refine lv_iload_n hx hb (dc tbX6_planned_k 7 rfl) rfl (lv_at hl 1 rfl) ?_
    refine lv_aload_n hx hb (dc tbX6_planned_k 8 rfl) rfl (lv_at hl 0 rfl) ?_
    refine gg6_7 hx hb hts hown hK hI hk0.1 q_t2_89 (dc tbX6_planned_k 9 rfl) ?_
    refine gg3_3 hx hb hts hown hK hI hk0.2.2.2.2.2.2.2.1 q_t2_11 (dc tbX6_planned_k 10 rfl) ?_
    refine lv_icmp_ge (tgt := 32) hx hb (dc tbX6_planned_k 11 rfl) rfl (fun c5 => ?_) (fun c5 => ?_)
    · have hf := ite_t c5 hf
      exact tX6_planned_b32 C hst htb hk0 M3 hf _ _ _ hI (lv_sub hl [] rfl)
    · have hf := ite_f c5 hf
      refine lv_iload_n hx hb (dc tbX6_planned_k 12 rfl) rfl (lv_at hl 1 rfl) ?_
      refine lv_bipush (v := 8) hx hb (dc tbX6_planned_k 13 rfl) bp_8 ?_
      refine lv_icmp_lt (tgt := 42) hx hb (dc tbX6_planned_k 14 rfl) rfl (fun c6 => ?_) (fun c6 => ?_)
      · have hf := ite_t c6 hf
        refine lv_aload_n hx hb (dc tbX6_planned_k 20 rfl) rfl (lv_at hl 0 rfl) ?_
        refine gg6_7 hx hb hts hown hK hI hk0.1 q_t2_89 (dc tbX6_planned_k 21 rfl) ?_
        refine gg3_2 hx hb hts hown hK hI hk0.2.2.2.2.2.2.2.1 q_t2_9 (dc tbX6_planned_k 22 rfl) ?_
        refine lv_iload_n hx hb (dc tbX6_planned_k 23 rfl) rfl (lv_at hl 1 rfl) ?_
        obtain ⟨h7, hf⟩ := chk_s hf
        refine g_iald hx hb hK hI hk0.2.2.2.2.2.2.2.2.1 (okb_in h7) (dc tbX6_planned_k 24 rfl) ?_
        cases hf
        refine W.widen (k := 1) (n := 6) (Nat.le_of_ble_eq_true rfl) (Nat.le_of_ble_eq_true rfl) ?_
        exact x_ret (g_iret hx hb hr hlk hI (dc tbX6_planned_k 25 rfl))
      · have hf := ite_f c6 hf
        exact tX6_planned_b32 C hst htb hk0 M3 hf _ _ _ hI (lv_sub hl [] rfl)
theorem cv_X6_planned : cvF RX6 yX6_planned cX6_planned 2 (some .int) 1 := ⟨q_t6_171, q_t6_172, q_t1_1, q_t6_173, by decide +kernel⟩
def mX6_greatestCost (k0 : Nat) (M : Mem) : Option (Mem × Int32) := cal (mX3_prepare 110 5 M) (fun M3 _ => some (M3, (rd M3 110 1)))
set_option maxHeartbeats 4000000 in
set_option maxRecDepth 100000 in
theorem tX6_greatestCost (l : Launch) {G : GT} {kd : Nat → Nat × Nat} {ad : Nat → Nat} {k0 : Nat} (hk0 : kRoot kd k0) {M : Mem} {MO : Mem} {vo : Int32} (hf : mX6_greatestCost k0 M = some (MO, vo)) (n : Nat) : Met l yX6_greatestCost (Cond.code yX6_greatestCost cX6_greatestCost 1 (some .int) :: WA) (rmO 7 0 0) (Pg G kd ad n [.ref (ad k0)] M) (Qg G kd ad n MO (some (.int vo))) 0 0 (AS kd ad n) := by
  refine g_body (own := RX6) (by decide) rfl ?_ (Nat.le_of_ble_eq_true rfl)
  intro p e s m args below meth c C _ H locs ls hI hl
  obtain ⟨hx, hb, hml, hr, hown, hts, hlk, hK, hap, hsx⟩ := id C
  have hl : lv_has ls 1 [(0, .ref (ad k0))] := hl
  unfold mX6_greatestCost at hf
  refine lv_aload_n hx hb (dc tbX6_greatestCost_k 0 rfl) rfl (lv_at hl 0 rfl) ?_
  refine gg6_7 hx hb hts hown hK hI hk0.1 q_t2_89 (dc tbX6_greatestCost_k 1 rfl) ?_
  refine lv_aload_n hx hb (dc tbX6_greatestCost_k 2 rfl) rfl (lv_at hl 0 rfl) ?_
  refine gg6_3 hx hb hts hown hK hI hk0.1 q_t2_85 (dc tbX6_greatestCost_k 3 rfl) ?_
  obtain ⟨M3, r2, q1, hf⟩ := cal_s hf
  refine g_callVv hx hb hml hown hts hK hap hsx hI (tX3_prepare l hk0.2.2.2.2.2.2.2 hk0.2.2.2.1 q1 H.size) cv_X3_prepare q_t3_59 rfl rfl ⟨Nat.le_of_ble_eq_true rfl, Nat.le_of_ble_eq_true rfl⟩ hk0.2.2.2.2.2.2.2.1 (by simp) rfl rfl rfl hl.1 rfl (Nat.le_of_ble_eq_true rfl) (dc tbX6_greatestCost_k 4 rfl) ⟨Nat.le_of_ble_eq_true rfl, Nat.le_of_ble_eq_true rfl⟩ (fun H locs hI => ?_)
  refine lv_aload_n hx hb (dc tbX6_greatestCost_k 5 rfl) rfl (lv_at hl 0 rfl) ?_
  refine gg6_7 hx hb hts hown hK hI hk0.1 q_t2_89 (dc tbX6_greatestCost_k 6 rfl) ?_
  refine gg3_1 hx hb hts hown hK hI hk0.2.2.2.2.2.2.2.1 q_t2_7 (dc tbX6_greatestCost_k 7 rfl) ?_
  cases hf
  exact g_iret hx hb hr hlk hI (dc tbX6_greatestCost_k 8 rfl)
theorem cv_X6_greatestCost : cvF RX6 yX6_greatestCost cX6_greatestCost 1 (some .int) 0 := ⟨q_t3_152, q_t3_153, q_t1_1, q_t3_154, by decide +kernel⟩
def mX6_ordersWith (k0 : Nat) (x1 : Int32) (x2 : Int32) (M : Mem) : Option (Mem × (Int64 ⊕ Nat)) := calx (mX6_requireStep k0 x1 x2 M) (fun M3 _ => cal (mX6_reasonNow k0 (((2 : Int32) * x1) + x2) M3) (fun M7 r6 => ite2 (r6 = 0) (cal (mX3_prepare 110 5 M7) (fun M11 _ => cap (mX3_ordersFrom 110 ((rd M11 5 13) ||| ((1 : Int32) <<< (x1 &&& 31))) M11) (fun r13 => some (M11, Sum.inl r13)))) (some (M7, Sum.inl (0 : Int64)))))
set_option maxHeartbeats 4000000 in
set_option maxRecDepth 100000 in
theorem tX6_ordersWith (l : Launch) (hst : l.stackTraces = false) {G : GT} {kd : Nat → Nat × Nat} {ad : Nat → Nat} {k0 : Nat} (hk0 : kRoot kd k0) {x1 : Int32} {x2 : Int32} {M : Mem} {MO : Mem} {vo : Int64 ⊕ Nat} (hf : mX6_ordersWith k0 x1 x2 M = some (MO, vo)) (n : Nat) : vx_Met l yX6_ordersWith (Cond.code yX6_ordersWith cX6_ordersWith 3 (some .long) :: WA) (rmO 7 2 12) (Pg G kd ad n [.ref (ad k0), .int x1, .int x2] M) (Qx G kd ad n MO (zl vo)) (Xx G kd ad n MO (zl vo)) 2 12 (AS kd ad n) := by
  refine g_bodyX (own := RX6) (by decide) rfl ?_ (Nat.le_of_ble_eq_true rfl)
  intro p e s m args below meth c C htb _ H locs ls hI hl
  obtain ⟨hx, hb, hml, hr, hown, hts, hlk, hK, hap, hsx⟩ := id C
  have hl : lv_has ls 3 [(0, .ref (ad k0)), (1, .int x1), (2, .int x2)] := hl
  unfold mX6_ordersWith at hf
  refine lv_aload_n hx hb (dc tbX6_ordersWith_k 0 rfl) rfl (lv_at hl 0 rfl) ?_
  refine lv_iload_n hx hb (dc tbX6_ordersWith_k 1 rfl) rfl (lv_at hl 1 rfl) ?_
  refine lv_iload_n hx hb (dc tbX6_ordersWith_k 2 rfl) rfl (lv_at hl 2 rfl) ?_
  rcases calx_s hf with ⟨M3, r2, q1, hf⟩ | ⟨e4, q1, rfl⟩
  · refine x_callRv (g_runXV hx hb hml hown hts hK hap hsx hI (tX6_requireStep l hst hk0 q1 H.size) cv_X6_requireStep q_t6_97 rfl rfl ⟨Nat.le_of_ble_eq_true rfl, Nat.le_of_ble_eq_true rfl⟩ hk0.1 (by simp) rfl rfl rfl hl.1 rfl (Nat.le_of_ble_eq_true rfl) (dc tbX6_ordersWith_k 3 rfl) ⟨Nat.le_of_ble_eq_true rfl, Nat.le_of_ble_eq_true rfl⟩) hI (fun H locs hI => ?_)
    refine lv_aload_n hx hb (dc tbX6_ordersWith_k 4 rfl) rfl (lv_at hl 0 rfl) ?_
    refine lv_iconst (v := 2) hx hb (dc tbX6_ordersWith_k 5 rfl) ic_2 ?_
    refine lv_iload_n hx hb (dc tbX6_ordersWith_k 6 rfl) rfl (lv_at hl 1 rfl) ?_
    refine lv_imul hx hb (dc tbX6_ordersWith_k 7 rfl) ?_
    refine lv_iload_n hx hb (dc tbX6_ordersWith_k 8 rfl) rfl (lv_at hl 2 rfl) ?_
    refine lv_iadd hx hb (dc tbX6_ordersWith_k 9 rfl) ?_
    obtain ⟨M7, r6, q5, hf⟩ := cal_s hf
    refine g_callVi hx hb hml hown hts hK hap hsx hI (tX6_reasonNow l hk0 q5 H.size) cv_X6_reasonNow q_t6_101 rfl rfl ⟨Nat.le_of_ble_eq_true rfl, Nat.le_of_ble_eq_true rfl⟩ hk0.1 (by simp) rfl rfl rfl hl.1 rfl (Nat.le_of_ble_eq_true rfl) (dc tbX6_ordersWith_k 10 rfl) ⟨Nat.le_of_ble_eq_true rfl, Nat.le_of_ble_eq_true rfl⟩ (fun H locs hI => ?_)
    refine lv_if_eq (tgt := 20) hx hb (dc tbX6_ordersWith_k 11 rfl) rfl (fun c8 => ?_) (fun c8 => ?_)
    · have hf := ite_t c8 hf
      refine lv_aload_n hx hb (dc tbX6_ordersWith_k 14 rfl) rfl (lv_at hl 0 rfl) ?_
      refine gg6_7 hx hb hts hown hK hI hk0.1 q_t2_89 (dc tbX6_ordersWith_k 15 rfl) ?_
      refine lv_aload_n hx hb (dc tbX6_ordersWith_k 16 rfl) rfl (lv_at hl 0 rfl) ?_
      refine gg6_3 hx hb hts hown hK hI hk0.1 q_t2_85 (dc tbX6_ordersWith_k 17 rfl) ?_
      obtain ⟨M11, r10, q9, hf⟩ := cal_s hf
      refine g_callVv hx hb hml hown hts hK hap hsx hI (tX3_prepare l hk0.2.2.2.2.2.2.2 hk0.2.2.2.1 q9 H.size) cv_X3_prepare q_t3_59 rfl rfl ⟨Nat.le_of_ble_eq_true rfl, Nat.le_of_ble_eq_true rfl⟩ hk0.2.2.2.2.2.2.2.1 (by simp) rfl rfl rfl hl.1 rfl (Nat.le_of_ble_eq_true rfl) (dc tbX6_ordersWith_k 18 rfl) ⟨Nat.le_of_ble_eq_true rfl, Nat.le_of_ble_eq_true rfl⟩ (fun H locs hI => ?_)
      refine lv_aload_n hx hb (dc tbX6_ordersWith_k 19 rfl) rfl (lv_at hl 0 rfl) ?_
      refine gg6_7 hx hb hts hown hK hI hk0.1 q_t2_89 (dc tbX6_ordersWith_k 20 rfl) ?_
      refine lv_aload_n hx hb (dc tbX6_ordersWith_k 21 rfl) rfl (lv_at hl 0 rfl) ?_
      refine gg6_3 hx hb hts hown hK hI hk0.1 q_t2_85 (dc tbX6_ordersWith_k 22 rfl) ?_
      refine gg1_13 hx hb hts hown hK hI hk0.2.2.2.1.1 q_t1_128 (dc tbX6_ordersWith_k 23 rfl) ?_
      refine lv_iconst (v := 1) hx hb (dc tbX6_ordersWith_k 24 rfl) ic_1 ?_
      refine lv_iload_n hx hb (dc tbX6_ordersWith_k 25 rfl) rfl (lv_at hl 1 rfl) ?_
      refine lv_ishl hx hb (dc tbX6_ordersWith_k 26 rfl) ?_
      refine lv_ior hx hb (dc tbX6_ordersWith_k 27 rfl) ?_
      obtain ⟨r13, q12, hf⟩ := cap_s hf
      refine g_callVl hx hb hml hown hts hK hap hsx hI (tX3_ordersFrom l hk0.2.2.2.2.2.2.2 q12 H.size) cv_X3_ordersFrom q_t3_139 rfl rfl ⟨Nat.le_of_ble_eq_true rfl, Nat.le_of_ble_eq_true rfl⟩ hk0.2.2.2.2.2.2.2.1 (by simp) rfl rfl rfl hl.1 rfl (Nat.le_of_ble_eq_true rfl) (dc tbX6_ordersWith_k 28 rfl) ⟨Nat.le_of_ble_eq_true rfl, Nat.le_of_ble_eq_true rfl⟩ (fun H locs hI => ?_)
      cases hf
      exact x_ret (g_lret hx hb hr hlk hI (dc tbX6_ordersWith_k 29 rfl))
    · have hf := ite_f c8 hf
      refine lv_lconst (v := 0) hx hb (dc tbX6_ordersWith_k 12 rfl) (by decide) ?_
      cases hf
      exact x_ret (g_lret hx hb hr hlk hI (dc tbX6_ordersWith_k 13 rfl))
  · exact x_callT (g_runXV hx hb hml hown hts hK hap hsx hI (tX6_requireStep l hst hk0 q1 H.size) cv_X6_requireStep q_t6_97 rfl rfl ⟨Nat.le_of_ble_eq_true rfl, Nat.le_of_ble_eq_true rfl⟩ hk0.1 (by simp) rfl rfl rfl hl.1 rfl (Nat.le_of_ble_eq_true rfl) (dc tbX6_ordersWith_k 3 rfl) ⟨Nat.le_of_ble_eq_true rfl, Nat.le_of_ble_eq_true rfl⟩) hI htb hlk (Nat.le_of_ble_eq_true rfl) (Nat.le_of_ble_eq_true rfl)
theorem cv_X6_ordersWith : cvF RX6 yX6_ordersWith cX6_ordersWith 3 (some .long) 2 := ⟨q_t6_179, q_t6_180, q_t1_1, q_t6_181, by decide +kernel⟩
def mX6_lastSteps (k0 : Nat) (M : Mem) : Option (Mem × Int32) := cal (mX3_prepare 110 5 M) (fun M3 _ => cap (mX3_stepsAtTheEnd 110 5 M3) (fun r5 => some (M3, r5)))
set_option maxHeartbeats 4000000 in
set_option maxRecDepth 100000 in
theorem tX6_lastSteps (l : Launch) {G : GT} {kd : Nat → Nat × Nat} {ad : Nat → Nat} {k0 : Nat} (hk0 : kRoot kd k0) {M : Mem} {MO : Mem} {vo : Int32} (hf : mX6_lastSteps k0 M = some (MO, vo)) (n : Nat) : Met l yX6_lastSteps (Cond.code yX6_lastSteps cX6_lastSteps 1 (some .int) :: WA) (rmO 7 0 0) (Pg G kd ad n [.ref (ad k0)] M) (Qg G kd ad n MO (some (.int vo))) 0 0 (AS kd ad n) := by
  refine g_body (own := RX6) (by decide) rfl ?_ (Nat.le_of_ble_eq_true rfl)
  intro p e s m args below meth c C _ H locs ls hI hl
  obtain ⟨hx, hb, hml, hr, hown, hts, hlk, hK, hap, hsx⟩ := id C
  have hl : lv_has ls 1 [(0, .ref (ad k0))] := hl
  unfold mX6_lastSteps at hf
  refine lv_aload_n hx hb (dc tbX6_lastSteps_k 0 rfl) rfl (lv_at hl 0 rfl) ?_
  refine gg6_7 hx hb hts hown hK hI hk0.1 q_t2_89 (dc tbX6_lastSteps_k 1 rfl) ?_
  refine lv_aload_n hx hb (dc tbX6_lastSteps_k 2 rfl) rfl (lv_at hl 0 rfl) ?_
  refine gg6_3 hx hb hts hown hK hI hk0.1 q_t2_85 (dc tbX6_lastSteps_k 3 rfl) ?_
  obtain ⟨M3, r2, q1, hf⟩ := cal_s hf
  refine g_callVv hx hb hml hown hts hK hap hsx hI (tX3_prepare l hk0.2.2.2.2.2.2.2 hk0.2.2.2.1 q1 H.size) cv_X3_prepare q_t3_59 rfl rfl ⟨Nat.le_of_ble_eq_true rfl, Nat.le_of_ble_eq_true rfl⟩ hk0.2.2.2.2.2.2.2.1 (by simp) rfl rfl rfl hl.1 rfl (Nat.le_of_ble_eq_true rfl) (dc tbX6_lastSteps_k 4 rfl) ⟨Nat.le_of_ble_eq_true rfl, Nat.le_of_ble_eq_true rfl⟩ (fun H locs hI => ?_)
  refine lv_aload_n hx hb (dc tbX6_lastSteps_k 5 rfl) rfl (lv_at hl 0 rfl) ?_
  refine gg6_7 hx hb hts hown hK hI hk0.1 q_t2_89 (dc tbX6_lastSteps_k 6 rfl) ?_
  refine lv_aload_n hx hb (dc tbX6_lastSteps_k 7 rfl) rfl (lv_at hl 0 rfl) ?_
  refine gg6_3 hx hb hts hown hK hI hk0.1 q_t2_85 (dc tbX6_lastSteps_k 8 rfl) ?_
  obtain ⟨r5, q4, hf⟩ := cap_s hf
  refine g_callVi hx hb hml hown hts hK hap hsx hI (tX3_stepsAtTheEnd l hk0.2.2.2.2.2.2.2 hk0.2.2.2.1 q4 H.size) cv_X3_stepsAtTheEnd q_t3_159 rfl rfl ⟨Nat.le_of_ble_eq_true rfl, Nat.le_of_ble_eq_true rfl⟩ hk0.2.2.2.2.2.2.2.1 (by simp) rfl rfl rfl hl.1 rfl (Nat.le_of_ble_eq_true rfl) (dc tbX6_lastSteps_k 9 rfl) ⟨Nat.le_of_ble_eq_true rfl, Nat.le_of_ble_eq_true rfl⟩ (fun H locs hI => ?_)
  cases hf
  exact g_iret hx hb hr hlk hI (dc tbX6_lastSteps_k 10 rfl)
theorem cv_X6_lastSteps : cvF RX6 yX6_lastSteps cX6_lastSteps 1 (some .int) 0 := ⟨q_t3_156, q_t3_157, q_t1_1, q_t3_158, by decide +kernel⟩
def mX6_mostBends (k0 : Nat) (M : Mem) : Option (Mem × Int32) := cal (mX3_prepare 110 5 M) (fun M3 _ => cap (mX3_mostBendsFrom 110 5 M3) (fun r5 => some (M3, r5)))
set_option maxHeartbeats 4000000 in
set_option maxRecDepth 100000 in
theorem tX6_mostBends (l : Launch) {G : GT} {kd : Nat → Nat × Nat} {ad : Nat → Nat} {k0 : Nat} (hk0 : kRoot kd k0) {M : Mem} {MO : Mem} {vo : Int32} (hf : mX6_mostBends k0 M = some (MO, vo)) (n : Nat) : Met l yX6_mostBends (Cond.code yX6_mostBends cX6_mostBends 1 (some .int) :: WA) (rmO 7 0 0) (Pg G kd ad n [.ref (ad k0)] M) (Qg G kd ad n MO (some (.int vo))) 0 0 (AS kd ad n) := by
  refine g_body (own := RX6) (by decide) rfl ?_ (Nat.le_of_ble_eq_true rfl)
  intro p e s m args below meth c C _ H locs ls hI hl
  obtain ⟨hx, hb, hml, hr, hown, hts, hlk, hK, hap, hsx⟩ := id C
  have hl : lv_has ls 1 [(0, .ref (ad k0))] := hl
  unfold mX6_mostBends at hf
  refine lv_aload_n hx hb (dc tbX6_mostBends_k 0 rfl) rfl (lv_at hl 0 rfl) ?_
  refine gg6_7 hx hb hts hown hK hI hk0.1 q_t2_89 (dc tbX6_mostBends_k 1 rfl) ?_
  refine lv_aload_n hx hb (dc tbX6_mostBends_k 2 rfl) rfl (lv_at hl 0 rfl) ?_
  refine gg6_3 hx hb hts hown hK hI hk0.1 q_t2_85 (dc tbX6_mostBends_k 3 rfl) ?_
  obtain ⟨M3, r2, q1, hf⟩ := cal_s hf
  refine g_callVv hx hb hml hown hts hK hap hsx hI (tX3_prepare l hk0.2.2.2.2.2.2.2 hk0.2.2.2.1 q1 H.size) cv_X3_prepare q_t3_59 rfl rfl ⟨Nat.le_of_ble_eq_true rfl, Nat.le_of_ble_eq_true rfl⟩ hk0.2.2.2.2.2.2.2.1 (by simp) rfl rfl rfl hl.1 rfl (Nat.le_of_ble_eq_true rfl) (dc tbX6_mostBends_k 4 rfl) ⟨Nat.le_of_ble_eq_true rfl, Nat.le_of_ble_eq_true rfl⟩ (fun H locs hI => ?_)
  refine lv_aload_n hx hb (dc tbX6_mostBends_k 5 rfl) rfl (lv_at hl 0 rfl) ?_
  refine gg6_7 hx hb hts hown hK hI hk0.1 q_t2_89 (dc tbX6_mostBends_k 6 rfl) ?_
  refine lv_aload_n hx hb (dc tbX6_mostBends_k 7 rfl) rfl (lv_at hl 0 rfl) ?_
  refine gg6_3 hx hb hts hown hK hI hk0.1 q_t2_85 (dc tbX6_mostBends_k 8 rfl) ?_
  obtain ⟨r5, q4, hf⟩ := cap_s hf
  refine g_callVi hx hb hml hown hts hK hap hsx hI (tX3_mostBendsFrom l hk0.2.2.2.2.2.2.2 hk0.2.2.2.1 q4 H.size) cv_X3_mostBendsFrom q_t3_167 rfl rfl ⟨Nat.le_of_ble_eq_true rfl, Nat.le_of_ble_eq_true rfl⟩ hk0.2.2.2.2.2.2.2.1 (by simp) rfl rfl rfl hl.1 rfl (Nat.le_of_ble_eq_true rfl) (dc tbX6_mostBends_k 9 rfl) ⟨Nat.le_of_ble_eq_true rfl, Nat.le_of_ble_eq_true rfl⟩ (fun H locs hI => ?_)
  cases hf
  exact g_iret hx hb hr hlk hI (dc tbX6_mostBends_k 10 rfl)
theorem cv_X6_mostBends : cvF RX6 yX6_mostBends cX6_mostBends 1 (some .int) 0 := ⟨q_t3_164, q_t3_165, q_t1_1, q_t3_166, by decide +kernel⟩
def mX6_greatestBeam_b59 (k0 : Nat) (ih16 : Int32 → Int32 → Mem → Option (Mem × Int32)) (x1 : Int32) (x2 : Int32) (M : Mem) : Option (Mem × Int32) := bnd ((x2 >>> ((1 : Int32) &&& 31))) (fun x2_62 => ih16 x1 x2_62 M)
set_option maxHeartbeats 4000000 in
set_option maxRecDepth 100000 in
theorem tX6_greatestBeam_b59 {p : Program} {l : Launch} {e : Env} {s : State} {m : MethodId} {args : Array Value} {below : List Frame} {meth : Method} {c : Code} {G : GT} {kd : Nat → Nat × Nat} {ad : Nat → Nat} (C : Cx p s m args meth c cX6_greatestBeam 4 (some .int) RX6 G kd ad) {k0 : Nat} (hk0 : kRoot kd k0) {MO : Mem} {vo : Int32} {ih16 : Int32 → Int32 → Mem → Option (Mem × Int32)} (hih16 : ∀ (x1 : Int32) (x2 : Int32) (M : Mem), ih16 x1 x2 M = some (MO, vo) → At p l e (rmO 6 0 0) s m args below meth c 0 0 (MQ below (Qg G kd ad s.heap.size MO (some (.int vo))) args s 0 0 (AS kd ad s.heap.size)) G kd ad 4 16 [(0, .ref (ad k0)), (1, .int x1), (2, .int x2)] [] M) : ∀ (x1 : Int32) (x2 : Int32) (M : Mem), mX6_greatestBeam_b59 k0 ih16 x1 x2 M = some (MO, vo) → At p l e (rmO 6 0 0) s m args below meth c 0 0 (MQ below (Qg G kd ad s.heap.size MO (some (.int vo))) args s 0 0 (AS kd ad s.heap.size)) G kd ad 4 59 [(0, .ref (ad k0)), (1, .int x1), (2, .int x2)] [] M := by
  intro x1 x2 M hf H locs ls hI hl
  obtain ⟨hx, hb, hml, hr, hown, hts, hlk, hK, hap, hsx⟩ := id C
  unfold mX6_greatestBeam_b59 at hf
  refine lv_iload_n hx hb (dc tbX6_greatestBeam_0_k 34 rfl) rfl (lv_at hl 2 rfl) ?_
  refine lv_iconst (v := 1) hx hb (dc tbX6_greatestBeam_0_k 35 rfl) ic_1 ?_
  refine lv_ishr hx hb (dc tbX6_greatestBeam_0_k 36 rfl) ?_
  obtain ⟨x2_62, e11, hf⟩ := bnd_s hf
  refine lv_ei e11 ?_
  refine lv_istore_n (lv' := [(2, .int x2_62), (0, .ref (ad k0)), (1, .int x1)]) hx hb (dc tbX6_greatestBeam_0_k 37 rfl) rfl hl (by decide) rfl (fun ls hl => ?_)
  refine lv_goto (tgt := 16) hx hb (dc tbX6_greatestBeam_0_k 38 rfl) rfl ?_
  exact hih16 x1 x2_62 M hf _ _ _ hI (lv_sub hl [1, 2, 0] rfl)
def mX6_greatestBeam_b16 (k0 : Nat) (ih16 : Int32 → Int32 → Mem → Option (Mem × Int32)) (x1 : Int32) (x2 : Int32) (M : Mem) : Option (Mem × Int32) := ite2 (x2 ≤ 0) (ite2 (x1 = (-1 : Int32)) (some (M, (-1 : Int32))) (some (M, ((100 : Int32) * x1)))) (bnd ((x1 + x2)) (fun x3_23 => chk (okb (1 : Int32) 10) (bnd (wr M (13 + 2) ((1 : Int32)).toNatClampNeg ((100 : Int32) * x3_23)) (fun M9 => ite2 ((20 : Int32) < x3_23) (mX6_greatestBeam_b59 k0 ih16 x1 x2 M9) (cal (mX3_reachesAll 110 13 M9) (fun M14 r13 => ite2 (r13 = 0) (mX6_greatestBeam_b59 k0 ih16 x1 x2 M14) (mX6_greatestBeam_b59 k0 ih16 x3_23 x2 M14)))))))
set_option maxHeartbeats 4000000 in
set_option maxRecDepth 100000 in
theorem tX6_greatestBeam_b16 {p : Program} {l : Launch} {e : Env} {s : State} {m : MethodId} {args : Array Value} {below : List Frame} {meth : Method} {c : Code} {G : GT} {kd : Nat → Nat × Nat} {ad : Nat → Nat} (C : Cx p s m args meth c cX6_greatestBeam 4 (some .int) RX6 G kd ad) {k0 : Nat} (hk0 : kRoot kd k0) {MO : Mem} {vo : Int32} {ih16 : Int32 → Int32 → Mem → Option (Mem × Int32)} (hih16 : ∀ (x1 : Int32) (x2 : Int32) (M : Mem), ih16 x1 x2 M = some (MO, vo) → At p l e (rmO 6 0 0) s m args below meth c 0 0 (MQ below (Qg G kd ad s.heap.size MO (some (.int vo))) args s 0 0 (AS kd ad s.heap.size)) G kd ad 4 16 [(0, .ref (ad k0)), (1, .int x1), (2, .int x2)] [] M) : ∀ (x1 : Int32) (x2 : Int32) (M : Mem), mX6_greatestBeam_b16 k0 ih16 x1 x2 M = some (MO, vo) → At p l e (rmO 6 0 0) s m args below meth c 0 0 (MQ below (Qg G kd ad s.heap.size MO (some (.int vo))) args s 0 0 (AS kd ad s.heap.size)) G kd ad 4 16 [(0, .ref (ad k0)), (1, .int x1), (2, .int x2)] [] M := by
  intro x1 x2 M hf H locs ls hI hl
  obtain ⟨hx, hb, hml, hr, hown, hts, hlk, hK, hap, hsx⟩ := id C
  unfold mX6_greatestBeam_b16 at hf
  refine lv_iload_n hx hb (dc tbX6_greatestBeam_0_k 9 rfl) rfl (lv_at hl 2 rfl) ?_
  refine lv_if_le (tgt := 66) hx hb (dc tbX6_greatestBeam_0_k 10 rfl) rfl (fun c4 => ?_) (fun c4 => ?_)
  · have hf := ite_t c4 hf
    refine lv_iload_n hx hb (dc tbX6_greatestBeam_0_k 39 rfl) rfl (lv_at hl 1 rfl) ?_
    refine lv_iconst (v := -1) hx hb (dc tbX6_greatestBeam_1_k 0 rfl) ic_m1 ?_
    refine lv_icmp_ne (tgt := 75) hx hb (dc tbX6_greatestBeam_1_k 1 rfl) rfl (fun c5 => ?_) (fun c5 => ?_)
    · have hf := ite_f c5 hf
      refine lv_bipush (v := 100) hx hb (dc tbX6_greatestBeam_1_k 4 rfl) bp_100 ?_
      refine lv_iload_n hx hb (dc tbX6_greatestBeam_1_k 5 rfl) rfl (lv_at hl 1 rfl) ?_
      refine lv_imul hx hb (dc tbX6_greatestBeam_1_k 6 rfl) ?_
      cases hf
      exact g_iret hx hb hr hlk hI (dc tbX6_greatestBeam_1_k 7 rfl)
    · have hf := ite_t c5 hf
      refine lv_iconst (v := -1) hx hb (dc tbX6_greatestBeam_1_k 2 rfl) ic_m1 ?_
      refine lv_goto (tgt := 79) hx hb (dc tbX6_greatestBeam_1_k 3 rfl) rfl ?_
      cases hf
      exact g_iret hx hb hr hlk hI (dc tbX6_greatestBeam_1_k 7 rfl)
  · have hf := ite_f c4 hf
    refine lv_iload_n hx hb (dc tbX6_greatestBeam_0_k 11 rfl) rfl (lv_at hl 1 rfl) ?_
    refine lv_iload_n hx hb (dc tbX6_greatestBeam_0_k 12 rfl) rfl (lv_at hl 2 rfl) ?_
    refine lv_iadd hx hb (dc tbX6_greatestBeam_0_k 13 rfl) ?_
    obtain ⟨x3_23, e6, hf⟩ := bnd_s hf
    refine lv_ei e6 ?_
    refine lv_istore_n (lv' := [(3, .int x3_23), (0, .ref (ad k0)), (1, .int x1), (2, .int x2)]) hx hb (dc tbX6_greatestBeam_0_k 14 rfl) rfl hl (by decide) rfl (fun ls hl => ?_)
    refine lv_aload_n hx hb (dc tbX6_greatestBeam_0_k 15 rfl) rfl (lv_at hl 1 rfl) ?_
    refine gg6_4 hx hb hts hown hK hI hk0.1 q_t2_86 (dc tbX6_greatestBeam_0_k 16 rfl) ?_
    refine gg1_6 hx hb hts hown hK hI hk0.2.2.2.2.1.1 q_t1_117 (dc tbX6_greatestBeam_0_k 17 rfl) ?_
    refine lv_iconst (v := 1) hx hb (dc tbX6_greatestBeam_0_k 18 rfl) ic_1 ?_
    refine lv_bipush (v := 100) hx hb (dc tbX6_greatestBeam_0_k 19 rfl) bp_100 ?_
    refine lv_iload_n hx hb (dc tbX6_greatestBeam_0_k 20 rfl) rfl (lv_at hl 0 rfl) ?_
    refine lv_imul hx hb (dc tbX6_greatestBeam_0_k 21 rfl) ?_
    obtain ⟨h7, hf⟩ := chk_s hf
    obtain ⟨M9, e8, hf⟩ := bnd_s hf
    refine g_iast hx hb hK hap hI hk0.2.2.2.2.1.2.2.1 (okb_in h7) (dc tbX6_greatestBeam_0_k 22 rfl) e8 (fun H locs hI => ?_)
    refine lv_iload_n hx hb (dc tbX6_greatestBeam_0_k 23 rfl) rfl (lv_at hl 0 rfl) ?_
    refine lv_bipush (v := 20) hx hb (dc tbX6_greatestBeam_0_k 24 rfl) bp_20 ?_
    refine lv_icmp_gt (tgt := 59) hx hb (dc tbX6_greatestBeam_0_k 25 rfl) rfl (fun c10 => ?_) (fun c10 => ?_)
    · have hf := ite_t c10 hf
      exact tX6_greatestBeam_b59 C hk0 hih16 x1 x2 M9 hf _ _ _ hI (lv_sub hl [1, 2, 3] rfl)
    · have hf := ite_f c10 hf
      refine lv_aload_n hx hb (dc tbX6_greatestBeam_0_k 26 rfl) rfl (lv_at hl 1 rfl) ?_
      refine gg6_7 hx hb hts hown hK hI hk0.1 q_t2_89 (dc tbX6_greatestBeam_0_k 27 rfl) ?_
      refine lv_aload_n hx hb (dc tbX6_greatestBeam_0_k 28 rfl) rfl (lv_at hl 1 rfl) ?_
      refine gg6_4 hx hb hts hown hK hI hk0.1 q_t2_86 (dc tbX6_greatestBeam_0_k 29 rfl) ?_
      obtain ⟨M14, r13, q12, hf⟩ := cal_s hf
      refine g_callVi hx hb hml hown hts hK hap hsx hI (tX3_reachesAll l hk0.2.2.2.2.2.2.2 hk0.2.2.2.2.1 q12 H.size) cv_X3_reachesAll q_t3_183 rfl rfl ⟨Nat.le_of_ble_eq_true rfl, Nat.le_of_ble_eq_true rfl⟩ hk0.2.2.2.2.2.2.2.1 (by simp) rfl rfl rfl hl.1 rfl (Nat.le_of_ble_eq_true rfl) (dc tbX6_greatestBeam_0_k 30 rfl) ⟨Nat.le_of_ble_eq_true rfl, Nat.le_of_ble_eq_true rfl⟩ (fun H locs hI => ?_)
      refine lv_if_eq (tgt := 59) hx hb (dc tbX6_greatestBeam_0_k 31 rfl) rfl (fun c15 => ?_) (fun c15 => ?_)
      · have hf := ite_t c15 hf
        exact tX6_greatestBeam_b59 C hk0 hih16 x1 x2 M14 hf _ _ _ hI (lv_sub hl [1, 2, 3] rfl)
      · have hf := ite_f c15 hf
        refine lv_iload_n hx hb (dc tbX6_greatestBeam_0_k 32 rfl) rfl (lv_at hl 0 rfl) ?_
        refine lv_istore_n (lv' := [(1, .int x3_23), (3, .int x3_23), (0, .ref (ad k0)), (2, .int x2)]) hx hb (dc tbX6_greatestBeam_0_k 33 rfl) rfl hl (by decide) rfl (fun ls hl => ?_)
        exact tX6_greatestBeam_b59 C hk0 hih16 x3_23 x2 M14 hf _ _ _ hI (lv_sub hl [2, 0, 3] rfl)
def mX6_greatestBeam_l16 (k0 : Nat) : Nat → Int32 → Int32 → Mem → Option (Mem × Int32)
  | 0 => fun _ _ _ => none
  | n + 1 => mX6_greatestBeam_b16 k0 (mX6_greatestBeam_l16 k0 n)
theorem tX6_greatestBeam_l16 {p : Program} {l : Launch} {e : Env} {s : State} {m : MethodId} {args : Array Value} {below : List Frame} {meth : Method} {c : Code} {G : GT} {kd : Nat → Nat × Nat} {ad : Nat → Nat} (C : Cx p s m args meth c cX6_greatestBeam 4 (some .int) RX6 G kd ad) {k0 : Nat} (hk0 : kRoot kd k0) {MO : Mem} {vo : Int32}   : ∀ (fuel : Nat) (x1 : Int32) (x2 : Int32) (M : Mem), mX6_greatestBeam_l16 k0 fuel x1 x2 M = some (MO, vo) → At p l e (rmO 6 0 0) s m args below meth c 0 0 (MQ below (Qg G kd ad s.heap.size MO (some (.int vo))) args s 0 0 (AS kd ad s.heap.size)) G kd ad 4 16 [(0, .ref (ad k0)), (1, .int x1), (2, .int x2)] [] M := by
  intro fuel
  induction fuel with
  | zero => intro x1 x2 M hf; cases hf
  | succ n IH => exact tX6_greatestBeam_b16 C hk0 IH
def mX6_greatestBeam (k0 : Nat) (M : Mem) : Option (Mem × Int32) := cal (mX1_copyFrom 13 5 M) (fun M3 _ => mX6_greatestBeam_l16 k0 5000 (-1 : Int32) (16 : Int32) M3)
set_option maxHeartbeats 4000000 in
set_option maxRecDepth 100000 in
theorem tX6_greatestBeam (l : Launch) {G : GT} {kd : Nat → Nat × Nat} {ad : Nat → Nat} {k0 : Nat} (hk0 : kRoot kd k0) {M : Mem} {MO : Mem} {vo : Int32} (hf : mX6_greatestBeam k0 M = some (MO, vo)) (n : Nat) : Met l yX6_greatestBeam (Cond.code yX6_greatestBeam cX6_greatestBeam 4 (some .int) :: WA) (rmO 6 0 0) (Pg G kd ad n [.ref (ad k0)] M) (Qg G kd ad n MO (some (.int vo))) 0 0 (AS kd ad n) := by
  refine g_body (own := RX6) (by decide) rfl ?_ (Nat.le_of_ble_eq_true rfl)
  intro p e s m args below meth c C _ H locs ls hI hl
  obtain ⟨hx, hb, hml, hr, hown, hts, hlk, hK, hap, hsx⟩ := id C
  have hl : lv_has ls 4 [(0, .ref (ad k0))] := hl
  unfold mX6_greatestBeam at hf
  refine lv_aload_n hx hb (dc tbX6_greatestBeam_0_k 0 rfl) rfl (lv_at hl 0 rfl) ?_
  refine gg6_4 hx hb hts hown hK hI hk0.1 q_t2_86 (dc tbX6_greatestBeam_0_k 1 rfl) ?_
  refine lv_aload_n hx hb (dc tbX6_greatestBeam_0_k 2 rfl) rfl (lv_at hl 0 rfl) ?_
  refine gg6_3 hx hb hts hown hK hI hk0.1 q_t2_85 (dc tbX6_greatestBeam_0_k 3 rfl) ?_
  obtain ⟨M3, r2, q1, hf⟩ := cal_s hf
  refine g_callVv hx hb hml hown hts hK hap hsx hI (tX1_copyFrom l hk0.2.2.2.2.1 hk0.2.2.2.1 q1 H.size) cv_X1_copyFrom q_t3_182 rfl rfl ⟨Nat.le_of_ble_eq_true rfl, Nat.le_of_ble_eq_true rfl⟩ hk0.2.2.2.2.1.1 (by simp) rfl rfl rfl hl.1 rfl (Nat.le_of_ble_eq_true rfl) (dc tbX6_greatestBeam_0_k 4 rfl) ⟨Nat.le_of_ble_eq_true rfl, Nat.le_of_ble_eq_true rfl⟩ (fun H locs hI => ?_)
  refine lv_iconst (v := -1) hx hb (dc tbX6_greatestBeam_0_k 5 rfl) ic_m1 ?_
  refine lv_istore_n (lv' := [(1, .int (-1 : Int32)), (0, .ref (ad k0))]) hx hb (dc tbX6_greatestBeam_0_k 6 rfl) rfl hl (by decide) rfl (fun ls hl => ?_)
  refine lv_bipush (v := 16) hx hb (dc tbX6_greatestBeam_0_k 7 rfl) bp_16 ?_
  refine lv_istore_n (lv' := [(2, .int (16 : Int32)), (1, .int (-1 : Int32)), (0, .ref (ad k0))]) hx hb (dc tbX6_greatestBeam_0_k 8 rfl) rfl hl (by decide) rfl (fun ls hl => ?_)
  exact tX6_greatestBeam_l16 C hk0 5000 (-1 : Int32) (16 : Int32) M3 hf _ _ _ hI (lv_sub hl [2, 1, 0] rfl)
theorem cv_X6_greatestBeam : cvF RX6 yX6_greatestBeam cX6_greatestBeam 4 (some .int) 0 := ⟨q_t3_179, q_t3_180, q_t1_1, q_t3_181, by decide +kernel⟩
def mX6_requireFlat (k0 : Nat) (M : Mem) : Option (Mem × (Unit ⊕ Nat)) := ite2 ((rd M 5 14) ≤ 0) (some (M, Sum.inl ())) (some (M, Sum.inr 2))
set_option maxHeartbeats 4000000 in
set_option maxRecDepth 100000 in
theorem tX6_requireFlat (l : Launch) (hst : l.stackTraces = false) {G : GT} {kd : Nat → Nat × Nat} {ad : Nat → Nat} {k0 : Nat} (hk0 : kRoot kd k0) {M : Mem} {MO : Mem} {vo : Unit ⊕ Nat} (hf : mX6_requireFlat k0 M = some (MO, vo)) (n : Nat) : vx_Met l yX6_requireFlat (Cond.code yX6_requireFlat cX6_requireFlat 1 none :: WA) (rmO 0 1 6) (Pg G kd ad n [.ref (ad k0)] M) (Qx G kd ad n MO (zv vo)) (Xx G kd ad n MO (zv vo)) 1 6 (AS kd ad n) := by
  refine g_bodyX (own := RX6) (by decide) rfl ?_ (Nat.le_of_ble_eq_true rfl)
  intro p e s m args below meth c C htb _ H locs ls hI hl
  obtain ⟨hx, hb, hml, hr, hown, hts, hlk, hK, hap, hsx⟩ := id C
  have hl : lv_has ls 1 [(0, .ref (ad k0))] := hl
  unfold mX6_requireFlat at hf
  refine lv_aload_n hx hb (dc tbX6_requireFlat_k 0 rfl) rfl (lv_at hl 0 rfl) ?_
  refine gg6_3 hx hb hts hown hK hI hk0.1 q_t2_85 (dc tbX6_requireFlat_k 1 rfl) ?_
  refine gg1_14 hx hb hts hown hK hI hk0.2.2.2.1.1 q_t1_130 (dc tbX6_requireFlat_k 2 rfl) ?_
  refine lv_if_le (tgt := 21) hx hb (dc tbX6_requireFlat_k 3 rfl) rfl (fun c1 => ?_) (fun c1 => ?_)
  · have hf := ite_t c1 hf
    cases hf
    refine W.widen (k := 1) (n := 6) (Nat.le_of_ble_eq_true rfl) (Nat.le_of_ble_eq_true rfl) ?_
    exact x_ret (g_vret hx hb hr hlk hI (dc tbX6_requireFlat_k 9 rfl))
  · have hf := ite_f c1 hf
    cases hf
    exact x_throw (text := "a step was made") (e9 := 2) true hx hb hst hml hown hts hlk hsx htb (by decide +kernel) fit_n q_t6_194 q_t1_24 (by decide +kernel) at_ise nb_ise gd_ise_276 rfl hI hl.1 (dc tbX6_requireFlat_k 4 rfl) (dc tbX6_requireFlat_k 5 rfl) (dc tbX6_requireFlat_k 6 rfl) (dc tbX6_requireFlat_k 7 rfl) (dc tbX6_requireFlat_k 8 rfl) (Nat.le_of_ble_eq_true rfl) (Nat.le_of_ble_eq_true rfl) ⟨Nat.le_of_ble_eq_true rfl, Nat.le_of_ble_eq_true rfl⟩ (Nat.le_of_ble_eq_true rfl) (Nat.le_of_ble_eq_true rfl)
theorem cv_X6_requireFlat : cvF RX6 yX6_requireFlat cX6_requireFlat 1 none 0 := ⟨q_t6_192, q_s3_1, q_t1_1, q_t6_193, by decide +kernel⟩
def mX6_costIfTurned (k0 : Nat) (x1 : Int32) (M : Mem) : Option (Mem × (Int32 ⊕ Nat)) := calx (mX6_requireBend k0 x1 M) (fun M3 _ => calx (mX6_requireFlat k0 M3) (fun M7 _ => cal (mX1_copyFrom 13 5 M7) (fun M11 _ => bnd (wr M11 13 2 ((rd M11 13 2) ^^^ ((1 : Int32) <<< (x1 &&& 31)))) (fun M12 => cal (mX3_prepare 110 13 M12) (fun M16 _ => some (M16, Sum.inl (rd M16 110 0)))))))
set_option maxHeartbeats 4000000 in
set_option maxRecDepth 100000 in
theorem tX6_costIfTurned (l : Launch) (hst : l.stackTraces = false) {G : GT} {kd : Nat → Nat × Nat} {ad : Nat → Nat} {k0 : Nat} (hk0 : kRoot kd k0) {x1 : Int32} {M : Mem} {MO : Mem} {vo : Int32 ⊕ Nat} (hf : mX6_costIfTurned k0 x1 M = some (MO, vo)) (n : Nat) : vx_Met l yX6_costIfTurned (Cond.code yX6_costIfTurned cX6_costIfTurned 2 (some .int) :: WA) (rmO 7 2 12) (Pg G kd ad n [.ref (ad k0), .int x1] M) (Qx G kd ad n MO (zi vo)) (Xx G kd ad n MO (zi vo)) 2 12 (AS kd ad n) := by
  refine g_bodyX (own := RX6) (by decide) rfl ?_ (Nat.le_of_ble_eq_true rfl)
  intro p e s m args below meth c C htb _ H locs ls hI hl
  obtain ⟨hx, hb, hml, hr, hown, hts, hlk, hK, hap, hsx⟩ := id C
  have hl : lv_has ls 2 [(0, .ref (ad k0)), (1, .int x1)] := hl
  unfold mX6_costIfTurned at hf
  refine lv_aload_n hx hb (dc tbX6_costIfTurned_k 0 rfl) rfl (lv_at hl 0 rfl) ?_
  refine lv_iload_n hx hb (dc tbX6_costIfTurned_k 1 rfl) rfl (lv_at hl 1 rfl) ?_
  rcases calx_s hf with ⟨M3, r2, q1, hf⟩ | ⟨e4, q1, rfl⟩
  · refine x_callRv (g_runXV hx hb hml hown hts hK hap hsx hI (tX6_requireBend l hst hk0 q1 H.size) cv_X6_requireBend q_t6_39 rfl rfl ⟨Nat.le_of_ble_eq_true rfl, Nat.le_of_ble_eq_true rfl⟩ hk0.1 (by simp) rfl rfl rfl hl.1 rfl (Nat.le_of_ble_eq_true rfl) (dc tbX6_costIfTurned_k 2 rfl) ⟨Nat.le_of_ble_eq_true rfl, Nat.le_of_ble_eq_true rfl⟩) hI (fun H locs hI => ?_)
    refine lv_aload_n hx hb (dc tbX6_costIfTurned_k 3 rfl) rfl (lv_at hl 0 rfl) ?_
    rcases calx_s hf with ⟨M7, r6, q5, hf⟩ | ⟨e8, q5, rfl⟩
    · refine x_callRv (g_runXV hx hb hml hown hts hK hap hsx hI (tX6_requireFlat l hst hk0 q5 H.size) cv_X6_requireFlat q_t6_190 rfl rfl ⟨Nat.le_of_ble_eq_true rfl, Nat.le_of_ble_eq_true rfl⟩ hk0.1 (by simp) rfl rfl rfl hl.1 rfl (Nat.le_of_ble_eq_true rfl) (dc tbX6_costIfTurned_k 4 rfl) ⟨Nat.le_of_ble_eq_true rfl, Nat.le_of_ble_eq_true rfl⟩) hI (fun H locs hI => ?_)
      refine lv_aload_n hx hb (dc tbX6_costIfTurned_k 5 rfl) rfl (lv_at hl 0 rfl) ?_
      refine gg6_4 hx hb hts hown hK hI hk0.1 q_t2_86 (dc tbX6_costIfTurned_k 6 rfl) ?_
      refine lv_aload_n hx hb (dc tbX6_costIfTurned_k 7 rfl) rfl (lv_at hl 0 rfl) ?_
      refine gg6_3 hx hb hts hown hK hI hk0.1 q_t2_85 (dc tbX6_costIfTurned_k 8 rfl) ?_
      obtain ⟨M11, r10, q9, hf⟩ := cal_s hf
      refine g_callVv hx hb hml hown hts hK hap hsx hI (tX1_copyFrom l hk0.2.2.2.2.1 hk0.2.2.2.1 q9 H.size) cv_X1_copyFrom q_t3_182 rfl rfl ⟨Nat.le_of_ble_eq_true rfl, Nat.le_of_ble_eq_true rfl⟩ hk0.2.2.2.2.1.1 (by simp) rfl rfl rfl hl.1 rfl (Nat.le_of_ble_eq_true rfl) (dc tbX6_costIfTurned_k 9 rfl) ⟨Nat.le_of_ble_eq_true rfl, Nat.le_of_ble_eq_true rfl⟩ (fun H locs hI => ?_)
      refine lv_aload_n hx hb (dc tbX6_costIfTurned_k 10 rfl) rfl (lv_at hl 0 rfl) ?_
      refine gg6_4 hx hb hts hown hK hI hk0.1 q_t2_86 (dc tbX6_costIfTurned_k 11 rfl) ?_
      refine lv_dup hx hb (dc tbX6_costIfTurned_k 12 rfl) rfl ?_
      refine gg1_2 hx hb hts hown hK hI hk0.2.2.2.2.1.1 q_t1_110 (dc tbX6_costIfTurned_k 13 rfl) ?_
      refine lv_iconst (v := 1) hx hb (dc tbX6_costIfTurned_k 14 rfl) ic_1 ?_
      refine lv_iload_n hx hb (dc tbX6_costIfTurned_k 15 rfl) rfl (lv_at hl 1 rfl) ?_
      refine lv_ishl hx hb (dc tbX6_costIfTurned_k 16 rfl) ?_
      refine lv_ixor hx hb (dc tbX6_costIfTurned_k 17 rfl) ?_
      obtain ⟨M12, e13, hf⟩ := bnd_s hf
      refine gp1_2 hx hb hts hown hK hap hI hk0.2.2.2.2.1.1 q_t1_110 (dc tbX6_costIfTurned_k 18 rfl) e13 (fun H locs hI => ?_)
      refine lv_aload_n hx hb (dc tbX6_costIfTurned_k 19 rfl) rfl (lv_at hl 0 rfl) ?_
      refine gg6_7 hx hb hts hown hK hI hk0.1 q_t2_89 (dc tbX6_costIfTurned_k 20 rfl) ?_
      refine lv_aload_n hx hb (dc tbX6_costIfTurned_k 21 rfl) rfl (lv_at hl 0 rfl) ?_
      refine gg6_4 hx hb hts hown hK hI hk0.1 q_t2_86 (dc tbX6_costIfTurned_k 22 rfl) ?_
      obtain ⟨M16, r15, q14, hf⟩ := cal_s hf
      refine g_callVv hx hb hml hown hts hK hap hsx hI (tX3_prepare l hk0.2.2.2.2.2.2.2 hk0.2.2.2.2.1 q14 H.size) cv_X3_prepare q_t3_59 rfl rfl ⟨Nat.le_of_ble_eq_true rfl, Nat.le_of_ble_eq_true rfl⟩ hk0.2.2.2.2.2.2.2.1 (by simp) rfl rfl rfl hl.1 rfl (Nat.le_of_ble_eq_true rfl) (dc tbX6_costIfTurned_k 23 rfl) ⟨Nat.le_of_ble_eq_true rfl, Nat.le_of_ble_eq_true rfl⟩ (fun H locs hI => ?_)
      refine lv_aload_n hx hb (dc tbX6_costIfTurned_k 24 rfl) rfl (lv_at hl 0 rfl) ?_
      refine gg6_7 hx hb hts hown hK hI hk0.1 q_t2_89 (dc tbX6_costIfTurned_k 25 rfl) ?_
      refine gg3_0 hx hb hts hown hK hI hk0.2.2.2.2.2.2.2.1 q_t2_5 (dc tbX6_costIfTurned_k 26 rfl) ?_
      cases hf
      exact x_ret (g_iret hx hb hr hlk hI (dc tbX6_costIfTurned_k 27 rfl))
    · exact x_callT (g_runXV hx hb hml hown hts hK hap hsx hI (tX6_requireFlat l hst hk0 q5 H.size) cv_X6_requireFlat q_t6_190 rfl rfl ⟨Nat.le_of_ble_eq_true rfl, Nat.le_of_ble_eq_true rfl⟩ hk0.1 (by simp) rfl rfl rfl hl.1 rfl (Nat.le_of_ble_eq_true rfl) (dc tbX6_costIfTurned_k 4 rfl) ⟨Nat.le_of_ble_eq_true rfl, Nat.le_of_ble_eq_true rfl⟩) hI htb hlk (Nat.le_of_ble_eq_true rfl) (Nat.le_of_ble_eq_true rfl)
  · exact x_callT (g_runXV hx hb hml hown hts hK hap hsx hI (tX6_requireBend l hst hk0 q1 H.size) cv_X6_requireBend q_t6_39 rfl rfl ⟨Nat.le_of_ble_eq_true rfl, Nat.le_of_ble_eq_true rfl⟩ hk0.1 (by simp) rfl rfl rfl hl.1 rfl (Nat.le_of_ble_eq_true rfl) (dc tbX6_costIfTurned_k 2 rfl) ⟨Nat.le_of_ble_eq_true rfl, Nat.le_of_ble_eq_true rfl⟩) hI htb hlk (Nat.le_of_ble_eq_true rfl) (Nat.le_of_ble_eq_true rfl)
theorem cv_X6_costIfTurned : cvF RX6 yX6_costIfTurned cX6_costIfTurned 2 (some .int) 1 := ⟨q_t6_187, q_t6_188, q_t1_1, q_t6_189, by decide +kernel⟩
def mX6_makeStep (k0 : Nat) (x1 : Int32) (M : Mem) : Option (Mem × Int32) := cal (mX6_costNow k0 x1 M) (fun M3 r2 => cal (mX0_remember 21 5 M3) (fun M6 _ => cal (mX6_gaugeNow k0 x1 M6) (fun M9 r8 => cal (mX1_addStep 5 x1 r8 r2 M9) (fun M12 _ => some (M12, r2)))))
set_option maxHeartbeats 4000000 in
set_option maxRecDepth 100000 in
theorem tX6_makeStep (l : Launch) {G : GT} {kd : Nat → Nat × Nat} {ad : Nat → Nat} {k0 : Nat} (hk0 : kRoot kd k0) {x1 : Int32} {M : Mem} {MO : Mem} {vo : Int32} (hf : mX6_makeStep k0 x1 M = some (MO, vo)) (n : Nat) : Met l yX6_makeStep (Cond.code yX6_makeStep cX6_makeStep 3 (some .int) :: WA) (rmO 4 0 0) (Pg G kd ad n [.ref (ad k0), .int x1] M) (Qg G kd ad n MO (some (.int vo))) 0 0 (AS kd ad n) := by
  refine g_body (own := RX6) (by decide) rfl ?_ (Nat.le_of_ble_eq_true rfl)
  intro p e s m args below meth c C _ H locs ls hI hl
  obtain ⟨hx, hb, hml, hr, hown, hts, hlk, hK, hap, hsx⟩ := id C
  have hl : lv_has ls 3 [(0, .ref (ad k0)), (1, .int x1)] := hl
  unfold mX6_makeStep at hf
  refine lv_aload_n hx hb (dc tbX6_makeStep_k 0 rfl) rfl (lv_at hl 0 rfl) ?_
  refine lv_iload_n hx hb (dc tbX6_makeStep_k 1 rfl) rfl (lv_at hl 1 rfl) ?_
  obtain ⟨M3, r2, q1, hf⟩ := cal_s hf
  refine g_callVi hx hb hml hown hts hK hap hsx hI (tX6_costNow l hk0 q1 H.size) cv_X6_costNow q_t6_160 rfl rfl ⟨Nat.le_of_ble_eq_true rfl, Nat.le_of_ble_eq_true rfl⟩ hk0.1 (by simp) rfl rfl rfl hl.1 rfl (Nat.le_of_ble_eq_true rfl) (dc tbX6_makeStep_k 2 rfl) ⟨Nat.le_of_ble_eq_true rfl, Nat.le_of_ble_eq_true rfl⟩ (fun H locs hI => ?_)
  refine lv_istore_n (lv' := [(2, .int r2), (0, .ref (ad k0)), (1, .int x1)]) hx hb (dc tbX6_makeStep_k 3 rfl) rfl hl (by decide) rfl (fun ls hl => ?_)
  refine lv_aload_n hx hb (dc tbX6_makeStep_k 4 rfl) rfl (lv_at hl 1 rfl) ?_
  refine gg6_5 hx hb hts hown hK hI hk0.1 q_t2_87 (dc tbX6_makeStep_k 5 rfl) ?_
  refine lv_aload_n hx hb (dc tbX6_makeStep_k 6 rfl) rfl (lv_at hl 1 rfl) ?_
  refine gg6_3 hx hb hts hown hK hI hk0.1 q_t2_85 (dc tbX6_makeStep_k 7 rfl) ?_
  obtain ⟨M6, r5, q4, hf⟩ := cal_s hf
  refine g_callVv hx hb hml hown hts hK hap hsx hI (tX0_remember l hk0.2.2.2.2.2.1 hk0.2.2.2.1 q4 H.size) cv_X0_remember q_t3_191 rfl rfl ⟨Nat.le_of_ble_eq_true rfl, Nat.le_of_ble_eq_true rfl⟩ hk0.2.2.2.2.2.1.1 (by simp) rfl rfl rfl hl.1 rfl (Nat.le_of_ble_eq_true rfl) (dc tbX6_makeStep_k 8 rfl) ⟨Nat.le_of_ble_eq_true rfl, Nat.le_of_ble_eq_true rfl⟩ (fun H locs hI => ?_)
  refine lv_aload_n hx hb (dc tbX6_makeStep_k 9 rfl) rfl (lv_at hl 1 rfl) ?_
  refine gg6_3 hx hb hts hown hK hI hk0.1 q_t2_85 (dc tbX6_makeStep_k 10 rfl) ?_
  refine lv_iload_n hx hb (dc tbX6_makeStep_k 11 rfl) rfl (lv_at hl 2 rfl) ?_
  refine lv_aload_n hx hb (dc tbX6_makeStep_k 12 rfl) rfl (lv_at hl 1 rfl) ?_
  refine lv_iload_n hx hb (dc tbX6_makeStep_k 13 rfl) rfl (lv_at hl 2 rfl) ?_
  obtain ⟨M9, r8, q7, hf⟩ := cal_s hf
  refine g_callVi hx hb hml hown hts hK hap hsx hI (tX6_gaugeNow l hk0 q7 H.size) cv_X6_gaugeNow q_t6_113 rfl rfl ⟨Nat.le_of_ble_eq_true rfl, Nat.le_of_ble_eq_true rfl⟩ hk0.1 (by simp) rfl rfl rfl hl.1 rfl (Nat.le_of_ble_eq_true rfl) (dc tbX6_makeStep_k 14 rfl) ⟨Nat.le_of_ble_eq_true rfl, Nat.le_of_ble_eq_true rfl⟩ (fun H locs hI => ?_)
  refine lv_iload_n hx hb (dc tbX6_makeStep_k 15 rfl) rfl (lv_at hl 0 rfl) ?_
  obtain ⟨M12, r11, q10, hf⟩ := cal_s hf
  refine g_callVv hx hb hml hown hts hK hap hsx hI (tX1_addStep l hk0.2.2.2.1 q10 H.size) cv_X1_addStep q_t6_222 rfl rfl ⟨Nat.le_of_ble_eq_true rfl, Nat.le_of_ble_eq_true rfl⟩ hk0.2.2.2.1.1 (by simp) rfl rfl rfl hl.1 rfl (Nat.le_of_ble_eq_true rfl) (dc tbX6_makeStep_k 16 rfl) ⟨Nat.le_of_ble_eq_true rfl, Nat.le_of_ble_eq_true rfl⟩ (fun H locs hI => ?_)
  refine lv_iload_n hx hb (dc tbX6_makeStep_k 17 rfl) rfl (lv_at hl 0 rfl) ?_
  cases hf
  exact g_iret hx hb hr hlk hI (dc tbX6_makeStep_k 18 rfl)
theorem cv_X6_makeStep : cvF RX6 yX6_makeStep cX6_makeStep 3 (some .int) 1 := ⟨q_t6_220, q_s3_2, q_t1_1, q_t6_221, by decide +kernel⟩
def mX6_fold (k0 : Nat) (x1 : Int32) (x2 : Int32) (M : Mem) : Option (Mem × (Int32 ⊕ Nat)) := calx (mX6_requireStep k0 x1 x2 M) (fun M3 _ => cal (mX6_reasonNow k0 (((2 : Int32) * x1) + x2) M3) (fun M7 r6 => ite2 (r6 = 0) (cal (mX6_makeStep k0 (((2 : Int32) * x1) + x2) M7) (fun M11 r10 => some (M11, Sum.inl r10))) (some (M7, Sum.inr 2))))
set_option maxHeartbeats 4000000 in
set_option maxRecDepth 100000 in
theorem tX6_fold (l : Launch) (hst : l.stackTraces = false) {G : GT} {kd : Nat → Nat × Nat} {ad : Nat → Nat} {k0 : Nat} (hk0 : kRoot kd k0) {x1 : Int32} {x2 : Int32} {M : Mem} {MO : Mem} {vo : Int32 ⊕ Nat} (hf : mX6_fold k0 x1 x2 M = some (MO, vo)) (n : Nat) : vx_Met l yX6_fold (Cond.code yX6_fold cX6_fold 3 (some .int) :: WA) (rmO 5 3 18) (Pg G kd ad n [.ref (ad k0), .int x1, .int x2] M) (Qx G kd ad n MO (zi vo)) (Xx G kd ad n MO (zi vo)) 3 18 (AS kd ad n) := by
  refine g_bodyX (own := RX6) (by decide) rfl ?_ (Nat.le_of_ble_eq_true rfl)
  intro p e s m args below meth c C htb _ H locs ls hI hl
  obtain ⟨hx, hb, hml, hr, hown, hts, hlk, hK, hap, hsx⟩ := id C
  have hl : lv_has ls 3 [(0, .ref (ad k0)), (1, .int x1), (2, .int x2)] := hl
  unfold mX6_fold at hf
  refine lv_aload_n hx hb (dc tbX6_fold_k 0 rfl) rfl (lv_at hl 0 rfl) ?_
  refine lv_iload_n hx hb (dc tbX6_fold_k 1 rfl) rfl (lv_at hl 1 rfl) ?_
  refine lv_iload_n hx hb (dc tbX6_fold_k 2 rfl) rfl (lv_at hl 2 rfl) ?_
  rcases calx_s hf with ⟨M3, r2, q1, hf⟩ | ⟨e4, q1, rfl⟩
  · refine x_callRv (g_runXV hx hb hml hown hts hK hap hsx hI (tX6_requireStep l hst hk0 q1 H.size) cv_X6_requireStep q_t6_97 rfl rfl ⟨Nat.le_of_ble_eq_true rfl, Nat.le_of_ble_eq_true rfl⟩ hk0.1 (by simp) rfl rfl rfl hl.1 rfl (Nat.le_of_ble_eq_true rfl) (dc tbX6_fold_k 3 rfl) ⟨Nat.le_of_ble_eq_true rfl, Nat.le_of_ble_eq_true rfl⟩) hI (fun H locs hI => ?_)
    refine lv_aload_n hx hb (dc tbX6_fold_k 4 rfl) rfl (lv_at hl 0 rfl) ?_
    refine lv_iconst (v := 2) hx hb (dc tbX6_fold_k 5 rfl) ic_2 ?_
    refine lv_iload_n hx hb (dc tbX6_fold_k 6 rfl) rfl (lv_at hl 1 rfl) ?_
    refine lv_imul hx hb (dc tbX6_fold_k 7 rfl) ?_
    refine lv_iload_n hx hb (dc tbX6_fold_k 8 rfl) rfl (lv_at hl 2 rfl) ?_
    refine lv_iadd hx hb (dc tbX6_fold_k 9 rfl) ?_
    obtain ⟨M7, r6, q5, hf⟩ := cal_s hf
    refine g_callVi hx hb hml hown hts hK hap hsx hI (tX6_reasonNow l hk0 q5 H.size) cv_X6_reasonNow q_t6_101 rfl rfl ⟨Nat.le_of_ble_eq_true rfl, Nat.le_of_ble_eq_true rfl⟩ hk0.1 (by simp) rfl rfl rfl hl.1 rfl (Nat.le_of_ble_eq_true rfl) (dc tbX6_fold_k 10 rfl) ⟨Nat.le_of_ble_eq_true rfl, Nat.le_of_ble_eq_true rfl⟩ (fun H locs hI => ?_)
    refine lv_if_eq (tgt := 29) hx hb (dc tbX6_fold_k 11 rfl) rfl (fun c8 => ?_) (fun c8 => ?_)
    · have hf := ite_t c8 hf
      refine lv_aload_n hx hb (dc tbX6_fold_k 17 rfl) rfl (lv_at hl 0 rfl) ?_
      refine lv_iconst (v := 2) hx hb (dc tbX6_fold_k 18 rfl) ic_2 ?_
      refine lv_iload_n hx hb (dc tbX6_fold_k 19 rfl) rfl (lv_at hl 1 rfl) ?_
      refine lv_imul hx hb (dc tbX6_fold_k 20 rfl) ?_
      refine lv_iload_n hx hb (dc tbX6_fold_k 21 rfl) rfl (lv_at hl 2 rfl) ?_
      refine lv_iadd hx hb (dc tbX6_fold_k 22 rfl) ?_
      obtain ⟨M11, r10, q9, hf⟩ := cal_s hf
      refine g_callVi hx hb hml hown hts hK hap hsx hI (tX6_makeStep l hk0 q9 H.size) cv_X6_makeStep q_t6_218 rfl rfl ⟨Nat.le_of_ble_eq_true rfl, Nat.le_of_ble_eq_true rfl⟩ hk0.1 (by simp) rfl rfl rfl hl.1 rfl (Nat.le_of_ble_eq_true rfl) (dc tbX6_fold_k 23 rfl) ⟨Nat.le_of_ble_eq_true rfl, Nat.le_of_ble_eq_true rfl⟩ (fun H locs hI => ?_)
      cases hf
      refine W.widen (k := 3) (n := 18) (Nat.le_of_ble_eq_true rfl) (Nat.le_of_ble_eq_true rfl) ?_
      exact x_ret (g_iret hx hb hr hlk hI (dc tbX6_fold_k 24 rfl))
    · have hf := ite_f c8 hf
      cases hf
      exact x_throw (text := "the step is refused") (e9 := 2) true hx hb hst hml hown hts hlk hsx htb (by decide +kernel) fit_n q_t6_194 q_t1_24 (by decide +kernel) at_ise nb_ise gd_ise_276 rfl hI hl.1 (dc tbX6_fold_k 12 rfl) (dc tbX6_fold_k 13 rfl) (dc tbX6_fold_k 14 rfl) (dc tbX6_fold_k 15 rfl) (dc tbX6_fold_k 16 rfl) (Nat.le_of_ble_eq_true rfl) (Nat.le_of_ble_eq_true rfl) ⟨Nat.le_of_ble_eq_true rfl, Nat.le_of_ble_eq_true rfl⟩ (Nat.le_of_ble_eq_true rfl) (Nat.le_of_ble_eq_true rfl)
  · exact x_callT (g_runXV hx hb hml hown hts hK hap hsx hI (tX6_requireStep l hst hk0 q1 H.size) cv_X6_requireStep q_t6_97 rfl rfl ⟨Nat.le_of_ble_eq_true rfl, Nat.le_of_ble_eq_true rfl⟩ hk0.1 (by simp) rfl rfl rfl hl.1 rfl (Nat.le_of_ble_eq_true rfl) (dc tbX6_fold_k 3 rfl) ⟨Nat.le_of_ble_eq_true rfl, Nat.le_of_ble_eq_true rfl⟩) hI htb hlk (Nat.le_of_ble_eq_true rfl) (Nat.le_of_ble_eq_true rfl)
theorem cv_X6_fold : cvF RX6 yX6_fold cX6_fold 3 (some .int) 2 := ⟨q_t6_214, q_t6_215, q_t1_1, q_t6_216, by decide +kernel⟩
def mX6_foldNext (k0 : Nat) (M : Mem) : Option (Mem × (Int32 ⊕ Nat)) := cal (mX3_prepare 110 5 M) (fun M3 _ => ite2 ((1 : Int32) ≤ (rd M3 110 3)) (chk (okb (0 : Int32) 8) (bnd ((rd M3 (110 + 1) ((0 : Int32)).toNatClampNeg)) (fun x1_42 => cal (mX6_makeStep k0 x1_42 M3) (fun M9 r8 => some (M9, Sum.inl x1_42))))) (some (M3, Sum.inr 2)))
set_option maxHeartbeats 4000000 in
set_option maxRecDepth 100000 in
theorem tX6_foldNext (l : Launch) (hst : l.stackTraces = false) {G : GT} {kd : Nat → Nat × Nat} {ad : Nat → Nat} {k0 : Nat} (hk0 : kRoot kd k0) {M : Mem} {MO : Mem} {vo : Int32 ⊕ Nat} (hf : mX6_foldNext k0 M = some (MO, vo)) (n : Nat) : vx_Met l yX6_foldNext (Cond.code yX6_foldNext cX6_foldNext 2 (some .int) :: WA) (rmO 7 1 6) (Pg G kd ad n [.ref (ad k0)] M) (Qx G kd ad n MO (zi vo)) (Xx G kd ad n MO (zi vo)) 1 6 (AS kd ad n) := by
  refine g_bodyX (own := RX6) (by decide) rfl ?_ (Nat.le_of_ble_eq_true rfl)
  intro p e s m args below meth c C htb _ H locs ls hI hl
  obtain ⟨hx, hb, hml, hr, hown, hts, hlk, hK, hap, hsx⟩ := id C
  have hl : lv_has ls 2 [(0, .ref (ad k0))] := hl
  unfold mX6_foldNext at hf
  refine lv_aload_n hx hb (dc tbX6_foldNext_k 0 rfl) rfl (lv_at hl 0 rfl) ?_
  refine gg6_7 hx hb hts hown hK hI hk0.1 q_t2_89 (dc tbX6_foldNext_k 1 rfl) ?_
  refine lv_aload_n hx hb (dc tbX6_foldNext_k 2 rfl) rfl (lv_at hl 0 rfl) ?_
  refine gg6_3 hx hb hts hown hK hI hk0.1 q_t2_85 (dc tbX6_foldNext_k 3 rfl) ?_
  obtain ⟨M3, r2, q1, hf⟩ := cal_s hf
  refine g_callVv hx hb hml hown hts hK hap hsx hI (tX3_prepare l hk0.2.2.2.2.2.2.2 hk0.2.2.2.1 q1 H.size) cv_X3_prepare q_t3_59 rfl rfl ⟨Nat.le_of_ble_eq_true rfl, Nat.le_of_ble_eq_true rfl⟩ hk0.2.2.2.2.2.2.2.1 (by simp) rfl rfl rfl hl.1 rfl (Nat.le_of_ble_eq_true rfl) (dc tbX6_foldNext_k 4 rfl) ⟨Nat.le_of_ble_eq_true rfl, Nat.le_of_ble_eq_true rfl⟩ (fun H locs hI => ?_)
  refine lv_aload_n hx hb (dc tbX6_foldNext_k 5 rfl) rfl (lv_at hl 0 rfl) ?_
  refine gg6_7 hx hb hts hown hK hI hk0.1 q_t2_89 (dc tbX6_foldNext_k 6 rfl) ?_
  refine gg3_3 hx hb hts hown hK hI hk0.2.2.2.2.2.2.2.1 q_t2_11 (dc tbX6_foldNext_k 7 rfl) ?_
  refine lv_iconst (v := 1) hx hb (dc tbX6_foldNext_k 8 rfl) ic_1 ?_
  refine lv_icmp_ge (tgt := 33) hx hb (dc tbX6_foldNext_k 9 rfl) rfl (fun c4 => ?_) (fun c4 => ?_)
  · have hf := ite_t c4 hf
    refine lv_aload_n hx hb (dc tbX6_foldNext_k 15 rfl) rfl (lv_at hl 0 rfl) ?_
    refine gg6_7 hx hb hts hown hK hI hk0.1 q_t2_89 (dc tbX6_foldNext_k 16 rfl) ?_
    refine gg3_2 hx hb hts hown hK hI hk0.2.2.2.2.2.2.2.1 q_t2_9 (dc tbX6_foldNext_k 17 rfl) ?_
    refine lv_iconst (v := 0) hx hb (dc tbX6_foldNext_k 18 rfl) ic_0 ?_
    obtain ⟨h5, hf⟩ := chk_s hf
    refine g_iald hx hb hK hI hk0.2.2.2.2.2.2.2.2.1 (okb_in h5) (dc tbX6_foldNext_k 19 rfl) ?_
    obtain ⟨x1_42, e6, hf⟩ := bnd_s hf
    refine lv_ei e6 ?_
    refine lv_istore_n (lv' := [(1, .int x1_42), (0, .ref (ad k0))]) hx hb (dc tbX6_foldNext_k 20 rfl) rfl hl (by decide) rfl (fun ls hl => ?_)
    refine lv_aload_n hx hb (dc tbX6_foldNext_k 21 rfl) rfl (lv_at hl 1 rfl) ?_
    refine lv_iload_n hx hb (dc tbX6_foldNext_k 22 rfl) rfl (lv_at hl 0 rfl) ?_
    obtain ⟨M9, r8, q7, hf⟩ := cal_s hf
    refine g_callVi hx hb hml hown hts hK hap hsx hI (tX6_makeStep l hk0 q7 H.size) cv_X6_makeStep q_t6_218 rfl rfl ⟨Nat.le_of_ble_eq_true rfl, Nat.le_of_ble_eq_true rfl⟩ hk0.1 (by simp) rfl rfl rfl hl.1 rfl (Nat.le_of_ble_eq_true rfl) (dc tbX6_foldNext_k 23 rfl) ⟨Nat.le_of_ble_eq_true rfl, Nat.le_of_ble_eq_true rfl⟩ (fun H locs hI => ?_)
    refine lv_pop hx hb (dc tbX6_foldNext_k 24 rfl) rfl ?_
    refine lv_iload_n hx hb (dc tbX6_foldNext_k 25 rfl) rfl (lv_at hl 0 rfl) ?_
    cases hf
    refine W.widen (k := 1) (n := 6) (Nat.le_of_ble_eq_true rfl) (Nat.le_of_ble_eq_true rfl) ?_
    exact x_ret (g_iret hx hb hr hlk hI (dc tbX6_foldNext_k 26 rfl))
  · have hf := ite_f c4 hf
    cases hf
    exact x_throw (text := "there is no order, or all bends are made") (e9 := 2) true hx hb hst hml hown hts hlk hsx htb (by decide +kernel) fit_n q_t6_194 q_t1_24 (by decide +kernel) at_ise nb_ise gd_ise_276 rfl hI hl.1 (dc tbX6_foldNext_k 10 rfl) (dc tbX6_foldNext_k 11 rfl) (dc tbX6_foldNext_k 12 rfl) (dc tbX6_foldNext_k 13 rfl) (dc tbX6_foldNext_k 14 rfl) (Nat.le_of_ble_eq_true rfl) (Nat.le_of_ble_eq_true rfl) ⟨Nat.le_of_ble_eq_true rfl, Nat.le_of_ble_eq_true rfl⟩ (Nat.le_of_ble_eq_true rfl) (Nat.le_of_ble_eq_true rfl)
theorem cv_X6_foldNext : cvF RX6 yX6_foldNext cX6_foldNext 2 (some .int) 0 := ⟨q_t6_230, q_t6_231, q_t1_1, q_t6_232, by decide +kernel⟩
def mX6_unfold (k0 : Nat) (M : Mem) : Option (Mem × Int32) := cal (mX0_remember 21 5 M) (fun M3 _ => bnd ((rd M3 5 14)) (fun x1_18 => cal (mX1_dropSteps 5 M3) (fun M7 _ => some (M7, x1_18))))
set_option maxHeartbeats 4000000 in
set_option maxRecDepth 100000 in
theorem tX6_unfold (l : Launch) {G : GT} {kd : Nat → Nat × Nat} {ad : Nat → Nat} {k0 : Nat} (hk0 : kRoot kd k0) {M : Mem} {MO : Mem} {vo : Int32} (hf : mX6_unfold k0 M = some (MO, vo)) (n : Nat) : Met l yX6_unfold (Cond.code yX6_unfold cX6_unfold 2 (some .int) :: WA) (rmO 3 0 0) (Pg G kd ad n [.ref (ad k0)] M) (Qg G kd ad n MO (some (.int vo))) 0 0 (AS kd ad n) := by
  refine g_body (own := RX6) (by decide) rfl ?_ (Nat.le_of_ble_eq_true rfl)
  intro p e s m args below meth c C _ H locs ls hI hl
  obtain ⟨hx, hb, hml, hr, hown, hts, hlk, hK, hap, hsx⟩ := id C
  have hl : lv_has ls 2 [(0, .ref (ad k0))] := hl
  unfold mX6_unfold at hf
  refine lv_aload_n hx hb (dc tbX6_unfold_k 0 rfl) rfl (lv_at hl 0 rfl) ?_
  refine gg6_5 hx hb hts hown hK hI hk0.1 q_t2_87 (dc tbX6_unfold_k 1 rfl) ?_
  refine lv_aload_n hx hb (dc tbX6_unfold_k 2 rfl) rfl (lv_at hl 0 rfl) ?_
  refine gg6_3 hx hb hts hown hK hI hk0.1 q_t2_85 (dc tbX6_unfold_k 3 rfl) ?_
  obtain ⟨M3, r2, q1, hf⟩ := cal_s hf
  refine g_callVv hx hb hml hown hts hK hap hsx hI (tX0_remember l hk0.2.2.2.2.2.1 hk0.2.2.2.1 q1 H.size) cv_X0_remember q_t3_191 rfl rfl ⟨Nat.le_of_ble_eq_true rfl, Nat.le_of_ble_eq_true rfl⟩ hk0.2.2.2.2.2.1.1 (by simp) rfl rfl rfl hl.1 rfl (Nat.le_of_ble_eq_true rfl) (dc tbX6_unfold_k 4 rfl) ⟨Nat.le_of_ble_eq_true rfl, Nat.le_of_ble_eq_true rfl⟩ (fun H locs hI => ?_)
  refine lv_aload_n hx hb (dc tbX6_unfold_k 5 rfl) rfl (lv_at hl 0 rfl) ?_
  refine gg6_3 hx hb hts hown hK hI hk0.1 q_t2_85 (dc tbX6_unfold_k 6 rfl) ?_
  refine gg1_14 hx hb hts hown hK hI hk0.2.2.2.1.1 q_t1_130 (dc tbX6_unfold_k 7 rfl) ?_
  obtain ⟨x1_18, e4, hf⟩ := bnd_s hf
  refine lv_ei e4 ?_
  refine lv_istore_n (lv' := [(1, .int x1_18), (0, .ref (ad k0))]) hx hb (dc tbX6_unfold_k 8 rfl) rfl hl (by decide) rfl (fun ls hl => ?_)
  refine lv_aload_n hx hb (dc tbX6_unfold_k 9 rfl) rfl (lv_at hl 1 rfl) ?_
  refine gg6_3 hx hb hts hown hK hI hk0.1 q_t2_85 (dc tbX6_unfold_k 10 rfl) ?_
  obtain ⟨M7, r6, q5, hf⟩ := cal_s hf
  refine g_callVv hx hb hml hown hts hK hap hsx hI (tX1_dropSteps l hk0.2.2.2.1 q5 H.size) cv_X1_dropSteps q_t3_196 rfl rfl ⟨Nat.le_of_ble_eq_true rfl, Nat.le_of_ble_eq_true rfl⟩ hk0.2.2.2.1.1 (by simp) rfl rfl rfl hl.1 rfl (Nat.le_of_ble_eq_true rfl) (dc tbX6_unfold_k 11 rfl) ⟨Nat.le_of_ble_eq_true rfl, Nat.le_of_ble_eq_true rfl⟩ (fun H locs hI => ?_)
  refine lv_iload_n hx hb (dc tbX6_unfold_k 12 rfl) rfl (lv_at hl 0 rfl) ?_
  cases hf
  exact g_iret hx hb hr hlk hI (dc tbX6_unfold_k 13 rfl)
theorem cv_X6_unfold : cvF RX6 yX6_unfold cX6_unfold 2 (some .int) 0 := ⟨q_t3_188, q_t3_189, q_t1_1, q_t3_190, by decide +kernel⟩
def mX6_setLeg (k0 : Nat) (x1 : Int32) (x2 : Int32) (M : Mem) : Option (Mem × (Int32 ⊕ Nat)) := calx (mX6_requireLeg k0 x1 M) (fun M3 _ => cap (mX5_allows 1 (0 : Int32) x2 M3) (fun r6 => ite2 (r6 = 0) (some (M3, Sum.inr 0)) (calx (mX6_requireFlat k0 M3) (fun M11 _ => cal (mX0_remember 21 5 M11) (fun M15 _ => chk (okb x1 9) (bnd ((rd M15 (5 + 1) (x1).toNatClampNeg)) (fun x3_51 => chk (okb x1 9) (bnd (wr M15 (5 + 1) (x1).toNatClampNeg x2) (fun M20 => some (M20, Sum.inl x3_51))))))))))
set_option maxHeartbeats 4000000 in
set_option maxRecDepth 100000 in
theorem tX6_setLeg (l : Launch) (hst : l.stackTraces = false) {G : GT} {kd : Nat → Nat × Nat} {ad : Nat → Nat} {k0 : Nat} (hk0 : kRoot kd k0) {x1 : Int32} {x2 : Int32} {M : Mem} {MO : Mem} {vo : Int32 ⊕ Nat} (hf : mX6_setLeg k0 x1 x2 M = some (MO, vo)) (n : Nat) : vx_Met l yX6_setLeg (Cond.code yX6_setLeg cX6_setLeg 4 (some .int) :: WA) (rmO 3 3 18) (Pg G kd ad n [.ref (ad k0), .int x1, .int x2] M) (Qx G kd ad n MO (zi vo)) (Xx G kd ad n MO (zi vo)) 3 18 (AS kd ad n) := by
  refine g_bodyX (own := RX6) (by decide) rfl ?_ (Nat.le_of_ble_eq_true rfl)
  intro p e s m args below meth c C htb _ H locs ls hI hl
  obtain ⟨hx, hb, hml, hr, hown, hts, hlk, hK, hap, hsx⟩ := id C
  have hl : lv_has ls 4 [(0, .ref (ad k0)), (1, .int x1), (2, .int x2)] := hl
  unfold mX6_setLeg at hf
  refine lv_aload_n hx hb (dc tbX6_setLeg_k 0 rfl) rfl (lv_at hl 0 rfl) ?_
  refine lv_iload_n hx hb (dc tbX6_setLeg_k 1 rfl) rfl (lv_at hl 1 rfl) ?_
  rcases calx_s hf with ⟨M3, r2, q1, hf⟩ | ⟨e4, q1, rfl⟩
  · refine x_callRv (g_runXV hx hb hml hown hts hK hap hsx hI (tX6_requireLeg l hst hk0 q1 H.size) cv_X6_requireLeg q_t6_15 rfl rfl ⟨Nat.le_of_ble_eq_true rfl, Nat.le_of_ble_eq_true rfl⟩ hk0.1 (by simp) rfl rfl rfl hl.1 rfl (Nat.le_of_ble_eq_true rfl) (dc tbX6_setLeg_k 2 rfl) ⟨Nat.le_of_ble_eq_true rfl, Nat.le_of_ble_eq_true rfl⟩) hI (fun H locs hI => ?_)
    refine g_gsW 1 (by decide) hx hb hown hts hsx hI q_t7_1 (dc tbX6_setLeg_k 3 rfl) ?_
    refine lv_iconst (v := 0) hx hb (dc tbX6_setLeg_k 4 rfl) ic_0 ?_
    refine lv_iload_n hx hb (dc tbX6_setLeg_k 5 rfl) rfl (lv_at hl 2 rfl) ?_
    obtain ⟨r6, q5, hf⟩ := cap_s hf
    refine g_callWi hx hb hml hown hts hK hap hsx hI (tX5_allows l (by decide) q5 H.size) cv_X5_allows q_t7_2 rfl rfl ⟨Nat.le_of_ble_eq_true rfl, Nat.le_of_ble_eq_true rfl⟩ (by decide) rfl hl.1 rfl (Nat.le_of_ble_eq_true rfl) (dc tbX6_setLeg_k 6 rfl) ⟨Nat.le_of_ble_eq_true rfl, Nat.le_of_ble_eq_true rfl⟩ (fun H locs hI => ?_)
    refine lv_if_ne (tgt := 27) hx hb (dc tbX6_setLeg_k 7 rfl) rfl (fun c8 => ?_) (fun c8 => ?_)
    · have hf := ite_f c8 hf
      refine lv_aload_n hx hb (dc tbX6_setLeg_k 13 rfl) rfl (lv_at hl 0 rfl) ?_
      rcases calx_s hf with ⟨M11, r10, q9, hf⟩ | ⟨e12, q9, rfl⟩
      · refine x_callRv (g_runXV hx hb hml hown hts hK hap hsx hI (tX6_requireFlat l hst hk0 q9 H.size) cv_X6_requireFlat q_t6_190 rfl rfl ⟨Nat.le_of_ble_eq_true rfl, Nat.le_of_ble_eq_true rfl⟩ hk0.1 (by simp) rfl rfl rfl hl.1 rfl (Nat.le_of_ble_eq_true rfl) (dc tbX6_setLeg_k 14 rfl) ⟨Nat.le_of_ble_eq_true rfl, Nat.le_of_ble_eq_true rfl⟩) hI (fun H locs hI => ?_)
        refine lv_aload_n hx hb (dc tbX6_setLeg_k 15 rfl) rfl (lv_at hl 0 rfl) ?_
        refine gg6_5 hx hb hts hown hK hI hk0.1 q_t2_87 (dc tbX6_setLeg_k 16 rfl) ?_
        refine lv_aload_n hx hb (dc tbX6_setLeg_k 17 rfl) rfl (lv_at hl 0 rfl) ?_
        refine gg6_3 hx hb hts hown hK hI hk0.1 q_t2_85 (dc tbX6_setLeg_k 18 rfl) ?_
        obtain ⟨M15, r14, q13, hf⟩ := cal_s hf
        refine g_callVv hx hb hml hown hts hK hap hsx hI (tX0_remember l hk0.2.2.2.2.2.1 hk0.2.2.2.1 q13 H.size) cv_X0_remember q_t3_191 rfl rfl ⟨Nat.le_of_ble_eq_true rfl, Nat.le_of_ble_eq_true rfl⟩ hk0.2.2.2.2.2.1.1 (by simp) rfl rfl rfl hl.1 rfl (Nat.le_of_ble_eq_true rfl) (dc tbX6_setLeg_k 19 rfl) ⟨Nat.le_of_ble_eq_true rfl, Nat.le_of_ble_eq_true rfl⟩ (fun H locs hI => ?_)
        refine lv_aload_n hx hb (dc tbX6_setLeg_k 20 rfl) rfl (lv_at hl 0 rfl) ?_
        refine gg6_3 hx hb hts hown hK hI hk0.1 q_t2_85 (dc tbX6_setLeg_k 21 rfl) ?_
        refine gg1_1 hx hb hts hown hK hI hk0.2.2.2.1.1 q_t1_107 (dc tbX6_setLeg_k 22 rfl) ?_
        refine lv_iload_n hx hb (dc tbX6_setLeg_k 23 rfl) rfl (lv_at hl 1 rfl) ?_
        obtain ⟨h16, hf⟩ := chk_s hf
        refine g_iald hx hb hK hI hk0.2.2.2.1.2.1 (okb_in h16) (dc tbX6_setLeg_k 24 rfl) ?_
        obtain ⟨x3_51, e17, hf⟩ := bnd_s hf
        refine lv_ei e17 ?_
        refine lv_istore_n (lv' := [(3, .int x3_51), (0, .ref (ad k0)), (1, .int x1), (2, .int x2)]) hx hb (dc tbX6_setLeg_k 25 rfl) rfl hl (by decide) rfl (fun ls hl => ?_)
        refine lv_aload_n hx hb (dc tbX6_setLeg_k 26 rfl) rfl (lv_at hl 1 rfl) ?_
        refine gg6_3 hx hb hts hown hK hI hk0.1 q_t2_85 (dc tbX6_setLeg_k 27 rfl) ?_
        refine gg1_1 hx hb hts hown hK hI hk0.2.2.2.1.1 q_t1_107 (dc tbX6_setLeg_k 28 rfl) ?_
        refine lv_iload_n hx hb (dc tbX6_setLeg_k 29 rfl) rfl (lv_at hl 2 rfl) ?_
        refine lv_iload_n hx hb (dc tbX6_setLeg_k 30 rfl) rfl (lv_at hl 3 rfl) ?_
        obtain ⟨h18, hf⟩ := chk_s hf
        obtain ⟨M20, e19, hf⟩ := bnd_s hf
        refine g_iast hx hb hK hap hI hk0.2.2.2.1.2.1 (okb_in h18) (dc tbX6_setLeg_k 31 rfl) e19 (fun H locs hI => ?_)
        refine lv_iload_n hx hb (dc tbX6_setLeg_k 32 rfl) rfl (lv_at hl 0 rfl) ?_
        cases hf
        refine W.widen (k := 3) (n := 18) (Nat.le_of_ble_eq_true rfl) (Nat.le_of_ble_eq_true rfl) ?_
        exact x_ret (g_iret hx hb hr hlk hI (dc tbX6_setLeg_k 33 rfl))
      · exact x_callT (g_runXV hx hb hml hown hts hK hap hsx hI (tX6_requireFlat l hst hk0 q9 H.size) cv_X6_requireFlat q_t6_190 rfl rfl ⟨Nat.le_of_ble_eq_true rfl, Nat.le_of_ble_eq_true rfl⟩ hk0.1 (by simp) rfl rfl rfl hl.1 rfl (Nat.le_of_ble_eq_true rfl) (dc tbX6_setLeg_k 14 rfl) ⟨Nat.le_of_ble_eq_true rfl, Nat.le_of_ble_eq_true rfl⟩) hI htb hlk (Nat.le_of_ble_eq_true rfl) (Nat.le_of_ble_eq_true rfl)
    · have hf := ite_t c8 hf
      cases hf
      exact x_throw (text := "length is not 1 to 9999") (e9 := 0) true hx hb hst hml hown hts hlk hsx htb (by decide +kernel) fit_n q_t5_106 q_t1_15 (by decide +kernel) at_iae nb_iae gd_iae_66 rfl hI hl.1 (dc tbX6_setLeg_k 8 rfl) (dc tbX6_setLeg_k 9 rfl) (dc tbX6_setLeg_k 10 rfl) (dc tbX6_setLeg_k 11 rfl) (dc tbX6_setLeg_k 12 rfl) (Nat.le_of_ble_eq_true rfl) (Nat.le_of_ble_eq_true rfl) ⟨Nat.le_of_ble_eq_true rfl, Nat.le_of_ble_eq_true rfl⟩ (Nat.le_of_ble_eq_true rfl) (Nat.le_of_ble_eq_true rfl)
  · exact x_callT (g_runXV hx hb hml hown hts hK hap hsx hI (tX6_requireLeg l hst hk0 q1 H.size) cv_X6_requireLeg q_t6_15 rfl rfl ⟨Nat.le_of_ble_eq_true rfl, Nat.le_of_ble_eq_true rfl⟩ hk0.1 (by simp) rfl rfl rfl hl.1 rfl (Nat.le_of_ble_eq_true rfl) (dc tbX6_setLeg_k 2 rfl) ⟨Nat.le_of_ble_eq_true rfl, Nat.le_of_ble_eq_true rfl⟩) hI htb hlk (Nat.le_of_ble_eq_true rfl) (Nat.le_of_ble_eq_true rfl)
theorem cv_X6_setLeg : cvF RX6 yX6_setLeg cX6_setLeg 4 (some .int) 2 := ⟨q_t6_238, q_t6_239, q_t1_1, q_t7_0, by decide +kernel⟩
def mX6_setDirection (k0 : Nat) (x1 : Int32) (x2 : Int32) (M : Mem) : Option (Mem × (Int32 ⊕ Nat)) := calx (mX6_requireBend k0 x1 M) (fun M3 _ => calx (mX6_requireFlat k0 M3) (fun M7 _ => cal (mX0_remember 21 5 M7) (fun M11 _ => cap (mX1_goesUp 5 x1 M11) (fun r13 => ite2 (r13 = x2) (chk (isB r13) (some (M11, Sum.inl r13))) (bnd (wr M11 5 2 ((rd M11 5 2) ^^^ ((1 : Int32) <<< (x1 &&& 31)))) (fun M17 => chk (isB r13) (some (M17, Sum.inl r13))))))))
set_option maxHeartbeats 4000000 in
set_option maxRecDepth 100000 in
theorem tX6_setDirection (l : Launch) (hst : l.stackTraces = false) {G : GT} {kd : Nat → Nat × Nat} {ad : Nat → Nat} {k0 : Nat} (hk0 : kRoot kd k0) {x1 : Int32} {x2 : Int32} {M : Mem} {MO : Mem} {vo : Int32 ⊕ Nat} (hf : mX6_setDirection k0 x1 x2 M = some (MO, vo)) (n : Nat) : vx_Met l yX6_setDirection (Cond.code yX6_setDirection cX6_setDirection 4 (some .boolean) :: WA) (rmO 3 2 12) (Pg G kd ad n [.ref (ad k0), .int x1, .int x2] M) (Qx G kd ad n MO (zi vo)) (Xx G kd ad n MO (zi vo)) 2 12 (AS kd ad n) := by
  refine g_bodyX (own := RX6) (by decide) rfl ?_ (Nat.le_of_ble_eq_true rfl)
  intro p e s m args below meth c C htb _ H locs ls hI hl
  obtain ⟨hx, hb, hml, hr, hown, hts, hlk, hK, hap, hsx⟩ := id C
  have hl : lv_has ls 4 [(0, .ref (ad k0)), (1, .int x1), (2, .int x2)] := hl
  unfold mX6_setDirection at hf
  refine lv_aload_n hx hb (dc tbX6_setDirection_k 0 rfl) rfl (lv_at hl 0 rfl) ?_
  refine lv_iload_n hx hb (dc tbX6_setDirection_k 1 rfl) rfl (lv_at hl 1 rfl) ?_
  rcases calx_s hf with ⟨M3, r2, q1, hf⟩ | ⟨e4, q1, rfl⟩
  · refine x_callRv (g_runXV hx hb hml hown hts hK hap hsx hI (tX6_requireBend l hst hk0 q1 H.size) cv_X6_requireBend q_t6_39 rfl rfl ⟨Nat.le_of_ble_eq_true rfl, Nat.le_of_ble_eq_true rfl⟩ hk0.1 (by simp) rfl rfl rfl hl.1 rfl (Nat.le_of_ble_eq_true rfl) (dc tbX6_setDirection_k 2 rfl) ⟨Nat.le_of_ble_eq_true rfl, Nat.le_of_ble_eq_true rfl⟩) hI (fun H locs hI => ?_)
    refine lv_aload_n hx hb (dc tbX6_setDirection_k 3 rfl) rfl (lv_at hl 0 rfl) ?_
    rcases calx_s hf with ⟨M7, r6, q5, hf⟩ | ⟨e8, q5, rfl⟩
    · refine x_callRv (g_runXV hx hb hml hown hts hK hap hsx hI (tX6_requireFlat l hst hk0 q5 H.size) cv_X6_requireFlat q_t6_190 rfl rfl ⟨Nat.le_of_ble_eq_true rfl, Nat.le_of_ble_eq_true rfl⟩ hk0.1 (by simp) rfl rfl rfl hl.1 rfl (Nat.le_of_ble_eq_true rfl) (dc tbX6_setDirection_k 4 rfl) ⟨Nat.le_of_ble_eq_true rfl, Nat.le_of_ble_eq_true rfl⟩) hI (fun H locs hI => ?_)
      refine lv_aload_n hx hb (dc tbX6_setDirection_k 5 rfl) rfl (lv_at hl 0 rfl) ?_
      refine gg6_5 hx hb hts hown hK hI hk0.1 q_t2_87 (dc tbX6_setDirection_k 6 rfl) ?_
      refine lv_aload_n hx hb (dc tbX6_setDirection_k 7 rfl) rfl (lv_at hl 0 rfl) ?_
      refine gg6_3 hx hb hts hown hK hI hk0.1 q_t2_85 (dc tbX6_setDirection_k 8 rfl) ?_
      obtain ⟨M11, r10, q9, hf⟩ := cal_s hf
      refine g_callVv hx hb hml hown hts hK hap hsx hI (tX0_remember l hk0.2.2.2.2.2.1 hk0.2.2.2.1 q9 H.size) cv_X0_remember q_t3_191 rfl rfl ⟨Nat.le_of_ble_eq_true rfl, Nat.le_of_ble_eq_true rfl⟩ hk0.2.2.2.2.2.1.1 (by simp) rfl rfl rfl hl.1 rfl (Nat.le_of_ble_eq_true rfl) (dc tbX6_setDirection_k 9 rfl) ⟨Nat.le_of_ble_eq_true rfl, Nat.le_of_ble_eq_true rfl⟩ (fun H locs hI => ?_)
      refine lv_aload_n hx hb (dc tbX6_setDirection_k 10 rfl) rfl (lv_at hl 0 rfl) ?_
      refine gg6_3 hx hb hts hown hK hI hk0.1 q_t2_85 (dc tbX6_setDirection_k 11 rfl) ?_
      refine lv_iload_n hx hb (dc tbX6_setDirection_k 12 rfl) rfl (lv_at hl 1 rfl) ?_
      obtain ⟨r13, q12, hf⟩ := cap_s hf
      refine g_callVi hx hb hml hown hts hK hap hsx hI (tX1_goesUp l hk0.2.2.2.1 q12 H.size) cv_X1_goesUp q_t5_71 rfl rfl ⟨Nat.le_of_ble_eq_true rfl, Nat.le_of_ble_eq_true rfl⟩ hk0.2.2.2.1.1 (by simp) rfl rfl rfl hl.1 rfl (Nat.le_of_ble_eq_true rfl) (dc tbX6_setDirection_k 13 rfl) ⟨Nat.le_of_ble_eq_true rfl, Nat.le_of_ble_eq_true rfl⟩ (fun H locs hI => ?_)
      refine lv_istore_n (lv' := [(3, .int r13), (0, .ref (ad k0)), (1, .int x1), (2, .int x2)]) hx hb (dc tbX6_setDirection_k 14 rfl) rfl hl (by decide) rfl (fun ls hl => ?_)
      refine lv_iload_n hx hb (dc tbX6_setDirection_k 15 rfl) rfl (lv_at hl 0 rfl) ?_
      refine lv_iload_n hx hb (dc tbX6_setDirection_k 16 rfl) rfl (lv_at hl 3 rfl) ?_
      refine lv_icmp_eq (tgt := 49) hx hb (dc tbX6_setDirection_k 17 rfl) rfl (fun c15 => ?_) (fun c15 => ?_)
      · have hf := ite_t c15 hf
        refine lv_iload_n hx hb (dc tbX6_setDirection_k 27 rfl) rfl (lv_at hl 0 rfl) ?_
        obtain ⟨h16, hf⟩ := chk_s hf
        cases hf
        exact x_ret (g_zret hx hb hr hlk hI (isB_n h16) (dc tbX6_setDirection_k 28 rfl))
      · have hf := ite_f c15 hf
        refine lv_aload_n hx hb (dc tbX6_setDirection_k 18 rfl) rfl (lv_at hl 1 rfl) ?_
        refine gg6_3 hx hb hts hown hK hI hk0.1 q_t2_85 (dc tbX6_setDirection_k 19 rfl) ?_
        refine lv_dup hx hb (dc tbX6_setDirection_k 20 rfl) rfl ?_
        refine gg1_2 hx hb hts hown hK hI hk0.2.2.2.1.1 q_t1_110 (dc tbX6_setDirection_k 21 rfl) ?_
        refine lv_iconst (v := 1) hx hb (dc tbX6_setDirection_k 22 rfl) ic_1 ?_
        refine lv_iload_n hx hb (dc tbX6_setDirection_k 23 rfl) rfl (lv_at hl 2 rfl) ?_
        refine lv_ishl hx hb (dc tbX6_setDirection_k 24 rfl) ?_
        refine lv_ixor hx hb (dc tbX6_setDirection_k 25 rfl) ?_
        obtain ⟨M17, e18, hf⟩ := bnd_s hf
        refine gp1_2 hx hb hts hown hK hap hI hk0.2.2.2.1.1 q_t1_110 (dc tbX6_setDirection_k 26 rfl) e18 (fun H locs hI => ?_)
        refine lv_iload_n hx hb (dc tbX6_setDirection_k 27 rfl) rfl (lv_at hl 0 rfl) ?_
        obtain ⟨h19, hf⟩ := chk_s hf
        cases hf
        exact x_ret (g_zret hx hb hr hlk hI (isB_n h19) (dc tbX6_setDirection_k 28 rfl))
    · exact x_callT (g_runXV hx hb hml hown hts hK hap hsx hI (tX6_requireFlat l hst hk0 q5 H.size) cv_X6_requireFlat q_t6_190 rfl rfl ⟨Nat.le_of_ble_eq_true rfl, Nat.le_of_ble_eq_true rfl⟩ hk0.1 (by simp) rfl rfl rfl hl.1 rfl (Nat.le_of_ble_eq_true rfl) (dc tbX6_setDirection_k 4 rfl) ⟨Nat.le_of_ble_eq_true rfl, Nat.le_of_ble_eq_true rfl⟩) hI htb hlk (Nat.le_of_ble_eq_true rfl) (Nat.le_of_ble_eq_true rfl)
  · exact x_callT (g_runXV hx hb hml hown hts hK hap hsx hI (tX6_requireBend l hst hk0 q1 H.size) cv_X6_requireBend q_t6_39 rfl rfl ⟨Nat.le_of_ble_eq_true rfl, Nat.le_of_ble_eq_true rfl⟩ hk0.1 (by simp) rfl rfl rfl hl.1 rfl (Nat.le_of_ble_eq_true rfl) (dc tbX6_setDirection_k 2 rfl) ⟨Nat.le_of_ble_eq_true rfl, Nat.le_of_ble_eq_true rfl⟩) hI htb hlk (Nat.le_of_ble_eq_true rfl) (Nat.le_of_ble_eq_true rfl)
theorem cv_X6_setDirection : cvF RX6 yX6_setDirection cX6_setDirection 4 (some .boolean) 2 := ⟨q_t7_8, q_t7_9, q_t1_1, q_t7_10, by decide +kernel⟩
def mX6_setTool_b32 (k0 : Nat) (M : Mem) : Option (Mem × (Int32 ⊕ Nat)) := some (M, Sum.inr 0)
set_option maxHeartbeats 4000000 in
set_option maxRecDepth 100000 in
theorem tX6_setTool_b32 {p : Program} {l : Launch} {e : Env} {s : State} {m : MethodId} {args : Array Value} {below : List Frame} {meth : Method} {c : Code} {G : GT} {kd : Nat → Nat × Nat} {ad : Nat → Nat} (C : Cx p s m args meth c cX6_setTool 6 (some .int) RX6 G kd ad) (hst : l.stackTraces = false) (htb : ∀ x ∈ c.exceptionTable.toList, False) {k0 : Nat} (hk0 : kRoot kd k0) {MO : Mem} {vo : Int32 ⊕ Nat}   : ∀  (M : Mem), mX6_setTool_b32 k0 M = some (MO, vo) → At p l e (rmO 3 1 6) s m args below meth c 0 0 (XQ G kd ad below args s MO (zi vo) 1 6) G kd ad 6 32 [] [] M := by
  intro M hf H locs ls hI hl
  obtain ⟨hx, hb, hml, hr, hown, hts, hlk, hK, hap, hsx⟩ := id C
  unfold mX6_setTool_b32 at hf
  cases hf
  exact x_throw (text := "a number of a tool is out of range") (e9 := 0) true hx hb hst hml hown hts hlk hsx htb (by decide +kernel) fit_n q_t5_106 q_t1_15 (by decide +kernel) at_iae nb_iae gd_iae_66 rfl hI hl.1 (dc tbX6_setTool_0_k 16 rfl) (dc tbX6_setTool_0_k 17 rfl) (dc tbX6_setTool_0_k 18 rfl) (dc tbX6_setTool_0_k 19 rfl) (dc tbX6_setTool_0_k 20 rfl) (Nat.le_of_ble_eq_true rfl) (Nat.le_of_ble_eq_true rfl) ⟨Nat.le_of_ble_eq_true rfl, Nat.le_of_ble_eq_true rfl⟩ (Nat.le_of_ble_eq_true rfl) (Nat.le_of_ble_eq_true rfl)
def mX6_setTool (k0 : Nat) (x1 : Int32) (x2 : Int32) (x3 : Int32) (M : Mem) : Option (Mem × (Int32 ⊕ Nat)) := cap (mX5_ofTool x1 M) (fun r2 => opt r2 (mX6_setTool_b32 k0 M) (fun w4 => chk (decide (w4 < 11)) (cap (mX5_allows w4 (0 : Int32) x2 M) (fun r7 => ite2 (r7 = 0) (mX6_setTool_b32 k0 M) (cap (mX5_allowsBehind w4 x2 (1 : Int32) x3 M) (fun r11 => ite2 (r11 = 0) (mX6_setTool_b32 k0 M) (cal (mX0_remember 21 5 M) (fun M16 _ => chk (okb ((2 : Int32) * x1) 10) (bnd ((rd M16 (5 + 2) (((2 : Int32) * x1)).toNatClampNeg)) (fun x5_65 => cal (mX1_putTool 5 x1 x2 x3 M16) (fun M21 _ => some (M21, Sum.inl x5_65))))))))))))
set_option maxHeartbeats 4000000 in
set_option maxRecDepth 100000 in
theorem tX6_setTool (l : Launch) (hst : l.stackTraces = false) {G : GT} {kd : Nat → Nat × Nat} {ad : Nat → Nat} {k0 : Nat} (hk0 : kRoot kd k0) {x1 : Int32} {x2 : Int32} {x3 : Int32} {M : Mem} {MO : Mem} {vo : Int32 ⊕ Nat} (hf : mX6_setTool k0 x1 x2 x3 M = some (MO, vo)) (n : Nat) : vx_Met l yX6_setTool (Cond.code yX6_setTool cX6_setTool 6 (some .int) :: WA) (rmO 3 1 6) (Pg G kd ad n [.ref (ad k0), .int x1, .int x2, .int x3] M) (Qx G kd ad n MO (zi vo)) (Xx G kd ad n MO (zi vo)) 1 6 (AS kd ad n) := by
  refine g_bodyX (own := RX6) (by decide) rfl ?_ (Nat.le_of_ble_eq_true rfl)
  intro p e s m args below meth c C htb _ H locs ls hI hl
  obtain ⟨hx, hb, hml, hr, hown, hts, hlk, hK, hap, hsx⟩ := id C
  have hl : lv_has ls 6 [(0, .ref (ad k0)), (1, .int x1), (2, .int x2), (3, .int x3)] := hl
  unfold mX6_setTool at hf
  refine lv_iload_n hx hb (dc tbX6_setTool_0_k 0 rfl) rfl (lv_at hl 1 rfl) ?_
  obtain ⟨r2, q1, hf⟩ := cap_s hf
  refine g_callSr hx hb hml hown hts hK hap hsx hI (tX5_ofTool l  q1 H.size) cs_X5_ofTool q_t6_68 rfl rfl ⟨Nat.le_of_ble_eq_true rfl, Nat.le_of_ble_eq_true rfl⟩ rfl hl.1 rfl (Nat.le_of_ble_eq_true rfl) (dc tbX6_setTool_0_k 1 rfl) ⟨Nat.le_of_ble_eq_true rfl, Nat.le_of_ble_eq_true rfl⟩ (fun H locs hI => ?_)
  rcases opt_s hf with ⟨e22, g23⟩ | ⟨w4, e22, g23⟩
  · subst e22
    have hf := g23
    refine lv_wn ?_
    refine lv_astoreN (lv' := [(4, .null), (0, .ref (ad k0)), (1, .int x1), (2, .int x2), (3, .int x3)]) hx hb (dc tbX6_setTool_0_k 2 rfl) hl (by decide) rfl (fun ls hl => ?_)
    refine lv_aloadN hx hb (dc tbX6_setTool_0_k 3 rfl) (lv_at hl 0 rfl) ?_
    refine lv_ifnullN (tgt := 32) hx hb (dc tbX6_setTool_0_k 4 rfl) rfl ?_
    exact tX6_setTool_b32 C hst htb hk0 M hf _ _ _ hI (lv_sub hl [] rfl)
  · subst e22
    obtain ⟨h5, hf⟩ := chk_s g23
    refine lv_ws ?_
    refine lv_astore (lv' := [(4, .ref (G.2.2 w4)), (0, .ref (ad k0)), (1, .int x1), (2, .int x2), (3, .int x3)]) hx hb (dc tbX6_setTool_0_k 2 rfl) hl (by decide) rfl (fun ls hl => ?_)
    refine lv_aload hx hb (dc tbX6_setTool_0_k 3 rfl) (lv_at hl 0 rfl) ?_
    refine lv_ifnull hx hb (dc tbX6_setTool_0_k 4 rfl) ?_
    refine lv_aload hx hb (dc tbX6_setTool_0_k 5 rfl) (lv_at hl 0 rfl) ?_
    refine lv_iconst (v := 0) hx hb (dc tbX6_setTool_0_k 6 rfl) ic_0 ?_
    refine lv_iload_n hx hb (dc tbX6_setTool_0_k 7 rfl) rfl (lv_at hl 3 rfl) ?_
    obtain ⟨r7, q6, hf⟩ := cap_s hf
    refine g_callWi hx hb hml hown hts hK hap hsx hI (tX5_allows l (of_decide_eq_true h5) q6 H.size) cv_X5_allows q_t7_2 rfl rfl ⟨Nat.le_of_ble_eq_true rfl, Nat.le_of_ble_eq_true rfl⟩ (of_decide_eq_true h5) rfl hl.1 rfl (Nat.le_of_ble_eq_true rfl) (dc tbX6_setTool_0_k 8 rfl) ⟨Nat.le_of_ble_eq_true rfl, Nat.le_of_ble_eq_true rfl⟩ (fun H locs hI => ?_)
    refine lv_if_eq (tgt := 32) hx hb (dc tbX6_setTool_0_k 9 rfl) rfl (fun c9 => ?_) (fun c9 => ?_)
    · have hf := ite_t c9 hf
      exact tX6_setTool_b32 C hst htb hk0 M hf _ _ _ hI (lv_sub hl [] rfl)
    · have hf := ite_f c9 hf
      refine lv_aload hx hb (dc tbX6_setTool_0_k 10 rfl) (lv_at hl 0 rfl) ?_
      refine lv_iload_n hx hb (dc tbX6_setTool_0_k 11 rfl) rfl (lv_at hl 3 rfl) ?_
      refine lv_iconst (v := 1) hx hb (dc tbX6_setTool_0_k 12 rfl) ic_1 ?_
      refine lv_iload_n hx hb (dc tbX6_setTool_0_k 13 rfl) rfl (lv_at hl 4 rfl) ?_
      obtain ⟨r11, q10, hf⟩ := cap_s hf
      refine g_callWi hx hb hml hown hts hK hap hsx hI (tX5_allowsBehind l (of_decide_eq_true h5) q10 H.size) cv_X5_allowsBehind q_t7_18 rfl rfl ⟨Nat.le_of_ble_eq_true rfl, Nat.le_of_ble_eq_true rfl⟩ (of_decide_eq_true h5) rfl hl.1 rfl (Nat.le_of_ble_eq_true rfl) (dc tbX6_setTool_0_k 14 rfl) ⟨Nat.le_of_ble_eq_true rfl, Nat.le_of_ble_eq_true rfl⟩ (fun H locs hI => ?_)
      refine lv_if_ne (tgt := 43) hx hb (dc tbX6_setTool_0_k 15 rfl) rfl (fun c13 => ?_) (fun c13 => ?_)
      · have hf := ite_f c13 hf
        refine lv_aload_n hx hb (dc tbX6_setTool_0_k 21 rfl) rfl (lv_at hl 1 rfl) ?_
        refine gg6_5 hx hb hts hown hK hI hk0.1 q_t2_87 (dc tbX6_setTool_0_k 22 rfl) ?_
        refine lv_aload_n hx hb (dc tbX6_setTool_0_k 23 rfl) rfl (lv_at hl 1 rfl) ?_
        refine gg6_3 hx hb hts hown hK hI hk0.1 q_t2_85 (dc tbX6_setTool_0_k 24 rfl) ?_
        obtain ⟨M16, r15, q14, hf⟩ := cal_s hf
        refine g_callVv hx hb hml hown hts hK hap hsx hI (tX0_remember l hk0.2.2.2.2.2.1 hk0.2.2.2.1 q14 H.size) cv_X0_remember q_t3_191 rfl rfl ⟨Nat.le_of_ble_eq_true rfl, Nat.le_of_ble_eq_true rfl⟩ hk0.2.2.2.2.2.1.1 (by simp) rfl rfl rfl hl.1 rfl (Nat.le_of_ble_eq_true rfl) (dc tbX6_setTool_0_k 25 rfl) ⟨Nat.le_of_ble_eq_true rfl, Nat.le_of_ble_eq_true rfl⟩ (fun H locs hI => ?_)
        refine lv_aload_n hx hb (dc tbX6_setTool_0_k 26 rfl) rfl (lv_at hl 1 rfl) ?_
        refine gg6_3 hx hb hts hown hK hI hk0.1 q_t2_85 (dc tbX6_setTool_0_k 27 rfl) ?_
        refine gg1_6 hx hb hts hown hK hI hk0.2.2.2.1.1 q_t1_117 (dc tbX6_setTool_0_k 28 rfl) ?_
        refine lv_iconst (v := 2) hx hb (dc tbX6_setTool_0_k 29 rfl) ic_2 ?_
        refine lv_iload_n hx hb (dc tbX6_setTool_0_k 30 rfl) rfl (lv_at hl 2 rfl) ?_
        refine lv_imul hx hb (dc tbX6_setTool_0_k 31 rfl) ?_
        obtain ⟨h17, hf⟩ := chk_s hf
        refine g_iald hx hb hK hI hk0.2.2.2.1.2.2.1 (okb_in h17) (dc tbX6_setTool_0_k 32 rfl) ?_
        obtain ⟨x5_65, e18, hf⟩ := bnd_s hf
        refine lv_ei e18 ?_
        refine lv_istore (lv' := [(5, .int x5_65), (4, .ref (G.2.2 w4)), (0, .ref (ad k0)), (1, .int x1), (2, .int x2), (3, .int x3)]) hx hb (dc tbX6_setTool_0_k 33 rfl) hl (by decide) rfl (fun ls hl => ?_)
        refine lv_aload_n hx hb (dc tbX6_setTool_0_k 34 rfl) rfl (lv_at hl 2 rfl) ?_
        refine gg6_3 hx hb hts hown hK hI hk0.1 q_t2_85 (dc tbX6_setTool_0_k 35 rfl) ?_
        refine lv_iload_n hx hb (dc tbX6_setTool_0_k 36 rfl) rfl (lv_at hl 3 rfl) ?_
        refine lv_iload_n hx hb (dc tbX6_setTool_0_k 37 rfl) rfl (lv_at hl 4 rfl) ?_
        refine lv_iload_n hx hb (dc tbX6_setTool_0_k 38 rfl) rfl (lv_at hl 5 rfl) ?_
        obtain ⟨M21, r20, q19, hf⟩ := cal_s hf
        refine g_callVv hx hb hml hown hts hK hap hsx hI (tX1_putTool l hk0.2.2.2.1 q19 H.size) cv_X1_putTool q_t7_20 rfl rfl ⟨Nat.le_of_ble_eq_true rfl, Nat.le_of_ble_eq_true rfl⟩ hk0.2.2.2.1.1 (by simp) rfl rfl rfl hl.1 rfl (Nat.le_of_ble_eq_true rfl) (dc tbX6_setTool_0_k 39 rfl) ⟨Nat.le_of_ble_eq_true rfl, Nat.le_of_ble_eq_true rfl⟩ (fun H locs hI => ?_)
        refine lv_iload hx hb (dc tbX6_setTool_1_k 0 rfl) (lv_at hl 0 rfl) ?_
        cases hf
        refine W.widen (k := 1) (n := 6) (Nat.le_of_ble_eq_true rfl) (Nat.le_of_ble_eq_true rfl) ?_
        exact x_ret (g_iret hx hb hr hlk hI (dc tbX6_setTool_1_k 1 rfl))
      · have hf := ite_t c13 hf
        exact tX6_setTool_b32 C hst htb hk0 M hf _ _ _ hI (lv_sub hl [] rfl)
theorem cv_X6_setTool : cvF RX6 yX6_setTool cX6_setTool 6 (some .int) 3 := ⟨q_t7_15, q_t7_16, q_t1_1, q_t7_17, by decide +kernel⟩
def mX6_setSheet_b33 (k0 : Nat) (M : Mem) : Option (Mem × (Int32 ⊕ Nat)) := some (M, Sum.inr 0)
set_option maxHeartbeats 4000000 in
set_option maxRecDepth 100000 in
theorem tX6_setSheet_b33 {p : Program} {l : Launch} {e : Env} {s : State} {m : MethodId} {args : Array Value} {below : List Frame} {meth : Method} {c : Code} {G : GT} {kd : Nat → Nat × Nat} {ad : Nat → Nat} (C : Cx p s m args meth c cX6_setSheet 5 (some .int) RX6 G kd ad) (hst : l.stackTraces = false) (htb : ∀ x ∈ c.exceptionTable.toList, False) {k0 : Nat} (hk0 : kRoot kd k0) {MO : Mem} {vo : Int32 ⊕ Nat}   : ∀  (M : Mem), mX6_setSheet_b33 k0 M = some (MO, vo) → At p l e (rmO 3 1 6) s m args below meth c 0 0 (XQ G kd ad below args s MO (zi vo) 1 6) G kd ad 5 33 [] [] M := by
  intro M hf H locs ls hI hl
  obtain ⟨hx, hb, hml, hr, hown, hts, hlk, hK, hap, hsx⟩ := id C
  unfold mX6_setSheet_b33 at hf
  cases hf
  exact x_throw (text := "a number of the sheet is out of range") (e9 := 0) true hx hb hst hml hown hts hlk hsx htb (by decide +kernel) fit_n q_t5_106 q_t1_15 (by decide +kernel) at_iae nb_iae gd_iae_66 rfl hI hl.1 (dc tbX6_setSheet_k 15 rfl) (dc tbX6_setSheet_k 16 rfl) (dc tbX6_setSheet_k 17 rfl) (dc tbX6_setSheet_k 18 rfl) (dc tbX6_setSheet_k 19 rfl) (Nat.le_of_ble_eq_true rfl) (Nat.le_of_ble_eq_true rfl) ⟨Nat.le_of_ble_eq_true rfl, Nat.le_of_ble_eq_true rfl⟩ (Nat.le_of_ble_eq_true rfl) (Nat.le_of_ble_eq_true rfl)
def mX6_setSheet (k0 : Nat) (x1 : Int32) (x2 : Int32) (x3 : Int32) (M : Mem) : Option (Mem × (Int32 ⊕ Nat)) := cap (mX5_allows 0 (0 : Int32) x1 M) (fun r2 => ite2 (r2 = 0) (mX6_setSheet_b33 k0 M) (cap (mX5_allows 0 (1 : Int32) x2 M) (fun r6 => ite2 (r6 = 0) (mX6_setSheet_b33 k0 M) (cap (mX5_allows 0 (2 : Int32) x3 M) (fun r10 => ite2 (r10 = 0) (mX6_setSheet_b33 k0 M) (cal (mX0_remember 21 5 M) (fun M15 _ => bnd ((rd M15 5 3)) (fun x4_62 => cal (mX1_putSheet 5 x1 x2 x3 M15) (fun M19 _ => some (M19, Sum.inl x4_62))))))))))
set_option maxHeartbeats 4000000 in
set_option maxRecDepth 100000 in
theorem tX6_setSheet (l : Launch) (hst : l.stackTraces = false) {G : GT} {kd : Nat → Nat × Nat} {ad : Nat → Nat} {k0 : Nat} (hk0 : kRoot kd k0) {x1 : Int32} {x2 : Int32} {x3 : Int32} {M : Mem} {MO : Mem} {vo : Int32 ⊕ Nat} (hf : mX6_setSheet k0 x1 x2 x3 M = some (MO, vo)) (n : Nat) : vx_Met l yX6_setSheet (Cond.code yX6_setSheet cX6_setSheet 5 (some .int) :: WA) (rmO 3 1 6) (Pg G kd ad n [.ref (ad k0), .int x1, .int x2, .int x3] M) (Qx G kd ad n MO (zi vo)) (Xx G kd ad n MO (zi vo)) 1 6 (AS kd ad n) := by
  refine g_bodyX (own := RX6) (by decide) rfl ?_ (Nat.le_of_ble_eq_true rfl)
  intro p e s m args below meth c C htb _ H locs ls hI hl
  obtain ⟨hx, hb, hml, hr, hown, hts, hlk, hK, hap, hsx⟩ := id C
  have hl : lv_has ls 5 [(0, .ref (ad k0)), (1, .int x1), (2, .int x2), (3, .int x3)] := hl
  unfold mX6_setSheet at hf
  refine g_gsW 0 (by decide) hx hb hown hts hsx hI q_t7_28 (dc tbX6_setSheet_k 0 rfl) ?_
  refine lv_iconst (v := 0) hx hb (dc tbX6_setSheet_k 1 rfl) ic_0 ?_
  refine lv_iload_n hx hb (dc tbX6_setSheet_k 2 rfl) rfl (lv_at hl 1 rfl) ?_
  obtain ⟨r2, q1, hf⟩ := cap_s hf
  refine g_callWi hx hb hml hown hts hK hap hsx hI (tX5_allows l (by decide) q1 H.size) cv_X5_allows q_t7_2 rfl rfl ⟨Nat.le_of_ble_eq_true rfl, Nat.le_of_ble_eq_true rfl⟩ (by decide) rfl hl.1 rfl (Nat.le_of_ble_eq_true rfl) (dc tbX6_setSheet_k 3 rfl) ⟨Nat.le_of_ble_eq_true rfl, Nat.le_of_ble_eq_true rfl⟩ (fun H locs hI => ?_)
  refine lv_if_eq (tgt := 33) hx hb (dc tbX6_setSheet_k 4 rfl) rfl (fun c4 => ?_) (fun c4 => ?_)
  · have hf := ite_t c4 hf
    exact tX6_setSheet_b33 C hst htb hk0 M hf _ _ _ hI (lv_sub hl [] rfl)
  · have hf := ite_f c4 hf
    refine g_gsW 0 (by decide) hx hb hown hts hsx hI q_t7_28 (dc tbX6_setSheet_k 5 rfl) ?_
    refine lv_iconst (v := 1) hx hb (dc tbX6_setSheet_k 6 rfl) ic_1 ?_
    refine lv_iload_n hx hb (dc tbX6_setSheet_k 7 rfl) rfl (lv_at hl 2 rfl) ?_
    obtain ⟨r6, q5, hf⟩ := cap_s hf
    refine g_callWi hx hb hml hown hts hK hap hsx hI (tX5_allows l (by decide) q5 H.size) cv_X5_allows q_t7_2 rfl rfl ⟨Nat.le_of_ble_eq_true rfl, Nat.le_of_ble_eq_true rfl⟩ (by decide) rfl hl.1 rfl (Nat.le_of_ble_eq_true rfl) (dc tbX6_setSheet_k 8 rfl) ⟨Nat.le_of_ble_eq_true rfl, Nat.le_of_ble_eq_true rfl⟩ (fun H locs hI => ?_)
    refine lv_if_eq (tgt := 33) hx hb (dc tbX6_setSheet_k 9 rfl) rfl (fun c8 => ?_) (fun c8 => ?_)
    · have hf := ite_t c8 hf
      exact tX6_setSheet_b33 C hst htb hk0 M hf _ _ _ hI (lv_sub hl [] rfl)
    · have hf := ite_f c8 hf
      refine g_gsW 0 (by decide) hx hb hown hts hsx hI q_t7_28 (dc tbX6_setSheet_k 10 rfl) ?_
      refine lv_iconst (v := 2) hx hb (dc tbX6_setSheet_k 11 rfl) ic_2 ?_
      refine lv_iload_n hx hb (dc tbX6_setSheet_k 12 rfl) rfl (lv_at hl 3 rfl) ?_
      obtain ⟨r10, q9, hf⟩ := cap_s hf
      refine g_callWi hx hb hml hown hts hK hap hsx hI (tX5_allows l (by decide) q9 H.size) cv_X5_allows q_t7_2 rfl rfl ⟨Nat.le_of_ble_eq_true rfl, Nat.le_of_ble_eq_true rfl⟩ (by decide) rfl hl.1 rfl (Nat.le_of_ble_eq_true rfl) (dc tbX6_setSheet_k 13 rfl) ⟨Nat.le_of_ble_eq_true rfl, Nat.le_of_ble_eq_true rfl⟩ (fun H locs hI => ?_)
      refine lv_if_ne (tgt := 44) hx hb (dc tbX6_setSheet_k 14 rfl) rfl (fun c12 => ?_) (fun c12 => ?_)
      · have hf := ite_f c12 hf
        refine lv_aload_n hx hb (dc tbX6_setSheet_k 20 rfl) rfl (lv_at hl 0 rfl) ?_
        refine gg6_5 hx hb hts hown hK hI hk0.1 q_t2_87 (dc tbX6_setSheet_k 21 rfl) ?_
        refine lv_aload_n hx hb (dc tbX6_setSheet_k 22 rfl) rfl (lv_at hl 0 rfl) ?_
        refine gg6_3 hx hb hts hown hK hI hk0.1 q_t2_85 (dc tbX6_setSheet_k 23 rfl) ?_
        obtain ⟨M15, r14, q13, hf⟩ := cal_s hf
        refine g_callVv hx hb hml hown hts hK hap hsx hI (tX0_remember l hk0.2.2.2.2.2.1 hk0.2.2.2.1 q13 H.size) cv_X0_remember q_t3_191 rfl rfl ⟨Nat.le_of_ble_eq_true rfl, Nat.le_of_ble_eq_true rfl⟩ hk0.2.2.2.2.2.1.1 (by simp) rfl rfl rfl hl.1 rfl (Nat.le_of_ble_eq_true rfl) (dc tbX6_setSheet_k 24 rfl) ⟨Nat.le_of_ble_eq_true rfl, Nat.le_of_ble_eq_true rfl⟩ (fun H locs hI => ?_)
        refine lv_aload_n hx hb (dc tbX6_setSheet_k 25 rfl) rfl (lv_at hl 0 rfl) ?_
        refine gg6_3 hx hb hts hown hK hI hk0.1 q_t2_85 (dc tbX6_setSheet_k 26 rfl) ?_
        refine gg1_3 hx hb hts hown hK hI hk0.2.2.2.1.1 q_t1_112 (dc tbX6_setSheet_k 27 rfl) ?_
        obtain ⟨x4_62, e16, hf⟩ := bnd_s hf
        refine lv_ei e16 ?_
        refine lv_istore (lv' := [(4, .int x4_62), (0, .ref (ad k0)), (1, .int x1), (2, .int x2), (3, .int x3)]) hx hb (dc tbX6_setSheet_k 28 rfl) hl (by decide) rfl (fun ls hl => ?_)
        refine lv_aload_n hx hb (dc tbX6_setSheet_k 29 rfl) rfl (lv_at hl 1 rfl) ?_
        refine gg6_3 hx hb hts hown hK hI hk0.1 q_t2_85 (dc tbX6_setSheet_k 30 rfl) ?_
        refine lv_iload_n hx hb (dc tbX6_setSheet_k 31 rfl) rfl (lv_at hl 2 rfl) ?_
        refine lv_iload_n hx hb (dc tbX6_setSheet_k 32 rfl) rfl (lv_at hl 3 rfl) ?_
        refine lv_iload_n hx hb (dc tbX6_setSheet_k 33 rfl) rfl (lv_at hl 4 rfl) ?_
        obtain ⟨M19, r18, q17, hf⟩ := cal_s hf
        refine g_callVv hx hb hml hown hts hK hap hsx hI (tX1_putSheet l hk0.2.2.2.1 q17 H.size) cv_X1_putSheet q_t7_30 rfl rfl ⟨Nat.le_of_ble_eq_true rfl, Nat.le_of_ble_eq_true rfl⟩ hk0.2.2.2.1.1 (by simp) rfl rfl rfl hl.1 rfl (Nat.le_of_ble_eq_true rfl) (dc tbX6_setSheet_k 34 rfl) ⟨Nat.le_of_ble_eq_true rfl, Nat.le_of_ble_eq_true rfl⟩ (fun H locs hI => ?_)
        refine lv_iload hx hb (dc tbX6_setSheet_k 35 rfl) (lv_at hl 0 rfl) ?_
        cases hf
        refine W.widen (k := 1) (n := 6) (Nat.le_of_ble_eq_true rfl) (Nat.le_of_ble_eq_true rfl) ?_
        exact x_ret (g_iret hx hb hr hlk hI (dc tbX6_setSheet_k 36 rfl))
      · have hf := ite_t c12 hf
        exact tX6_setSheet_b33 C hst htb hk0 M hf _ _ _ hI (lv_sub hl [] rfl)
theorem cv_X6_setSheet : cvF RX6 yX6_setSheet cX6_setSheet 5 (some .int) 3 := ⟨q_t7_25, q_t7_26, q_t1_1, q_t7_27, by decide +kernel⟩
def mX6_setCost_b33 (k0 : Nat) (M : Mem) : Option (Mem × (Int32 ⊕ Nat)) := some (M, Sum.inr 0)
set_option maxHeartbeats 4000000 in
set_option maxRecDepth 100000 in
theorem tX6_setCost_b33 {p : Program} {l : Launch} {e : Env} {s : State} {m : MethodId} {args : Array Value} {below : List Frame} {meth : Method} {c : Code} {G : GT} {kd : Nat → Nat × Nat} {ad : Nat → Nat} (C : Cx p s m args meth c cX6_setCost 5 (some .int) RX6 G kd ad) (hst : l.stackTraces = false) (htb : ∀ x ∈ c.exceptionTable.toList, False) {k0 : Nat} (hk0 : kRoot kd k0) {MO : Mem} {vo : Int32 ⊕ Nat}   : ∀  (M : Mem), mX6_setCost_b33 k0 M = some (MO, vo) → At p l e (rmO 3 1 6) s m args below meth c 0 0 (XQ G kd ad below args s MO (zi vo) 1 6) G kd ad 5 33 [] [] M := by
  intro M hf H locs ls hI hl
  obtain ⟨hx, hb, hml, hr, hown, hts, hlk, hK, hap, hsx⟩ := id C
  unfold mX6_setCost_b33 at hf
  cases hf
  exact x_throw (text := "a cost is not 0 to 99") (e9 := 0) true hx hb hst hml hown hts hlk hsx htb (by decide +kernel) fit_n q_t5_106 q_t1_15 (by decide +kernel) at_iae nb_iae gd_iae_66 rfl hI hl.1 (dc tbX6_setCost_k 15 rfl) (dc tbX6_setCost_k 16 rfl) (dc tbX6_setCost_k 17 rfl) (dc tbX6_setCost_k 18 rfl) (dc tbX6_setCost_k 19 rfl) (Nat.le_of_ble_eq_true rfl) (Nat.le_of_ble_eq_true rfl) ⟨Nat.le_of_ble_eq_true rfl, Nat.le_of_ble_eq_true rfl⟩ (Nat.le_of_ble_eq_true rfl) (Nat.le_of_ble_eq_true rfl)
def mX6_setCost (k0 : Nat) (x1 : Int32) (x2 : Int32) (x3 : Int32) (M : Mem) : Option (Mem × (Int32 ⊕ Nat)) := cap (mX5_allows 10 (0 : Int32) x1 M) (fun r2 => ite2 (r2 = 0) (mX6_setCost_b33 k0 M) (cap (mX5_allows 10 (1 : Int32) x2 M) (fun r6 => ite2 (r6 = 0) (mX6_setCost_b33 k0 M) (cap (mX5_allows 10 (2 : Int32) x3 M) (fun r10 => ite2 (r10 = 0) (mX6_setCost_b33 k0 M) (cal (mX0_remember 21 5 M) (fun M15 _ => bnd ((rd M15 5 7)) (fun x4_62 => cal (mX1_putCosts 5 x1 x2 x3 M15) (fun M19 _ => some (M19, Sum.inl x4_62))))))))))
set_option maxHeartbeats 4000000 in
set_option maxRecDepth 100000 in
theorem tX6_setCost (l : Launch) (hst : l.stackTraces = false) {G : GT} {kd : Nat → Nat × Nat} {ad : Nat → Nat} {k0 : Nat} (hk0 : kRoot kd k0) {x1 : Int32} {x2 : Int32} {x3 : Int32} {M : Mem} {MO : Mem} {vo : Int32 ⊕ Nat} (hf : mX6_setCost k0 x1 x2 x3 M = some (MO, vo)) (n : Nat) : vx_Met l yX6_setCost (Cond.code yX6_setCost cX6_setCost 5 (some .int) :: WA) (rmO 3 1 6) (Pg G kd ad n [.ref (ad k0), .int x1, .int x2, .int x3] M) (Qx G kd ad n MO (zi vo)) (Xx G kd ad n MO (zi vo)) 1 6 (AS kd ad n) := by
  refine g_bodyX (own := RX6) (by decide) rfl ?_ (Nat.le_of_ble_eq_true rfl)
  intro p e s m args below meth c C htb _ H locs ls hI hl
  obtain ⟨hx, hb, hml, hr, hown, hts, hlk, hK, hap, hsx⟩ := id C
  have hl : lv_has ls 5 [(0, .ref (ad k0)), (1, .int x1), (2, .int x2), (3, .int x3)] := hl
  unfold mX6_setCost at hf
  refine g_gsW 10 (by decide) hx hb hown hts hsx hI q_t7_38 (dc tbX6_setCost_k 0 rfl) ?_
  refine lv_iconst (v := 0) hx hb (dc tbX6_setCost_k 1 rfl) ic_0 ?_
  refine lv_iload_n hx hb (dc tbX6_setCost_k 2 rfl) rfl (lv_at hl 1 rfl) ?_
  obtain ⟨r2, q1, hf⟩ := cap_s hf
  refine g_callWi hx hb hml hown hts hK hap hsx hI (tX5_allows l (by decide) q1 H.size) cv_X5_allows q_t7_2 rfl rfl ⟨Nat.le_of_ble_eq_true rfl, Nat.le_of_ble_eq_true rfl⟩ (by decide) rfl hl.1 rfl (Nat.le_of_ble_eq_true rfl) (dc tbX6_setCost_k 3 rfl) ⟨Nat.le_of_ble_eq_true rfl, Nat.le_of_ble_eq_true rfl⟩ (fun H locs hI => ?_)
  refine lv_if_eq (tgt := 33) hx hb (dc tbX6_setCost_k 4 rfl) rfl (fun c4 => ?_) (fun c4 => ?_)
  · have hf := ite_t c4 hf
    exact tX6_setCost_b33 C hst htb hk0 M hf _ _ _ hI (lv_sub hl [] rfl)
  · have hf := ite_f c4 hf
    refine g_gsW 10 (by decide) hx hb hown hts hsx hI q_t7_38 (dc tbX6_setCost_k 5 rfl) ?_
    refine lv_iconst (v := 1) hx hb (dc tbX6_setCost_k 6 rfl) ic_1 ?_
    refine lv_iload_n hx hb (dc tbX6_setCost_k 7 rfl) rfl (lv_at hl 2 rfl) ?_
    obtain ⟨r6, q5, hf⟩ := cap_s hf
    refine g_callWi hx hb hml hown hts hK hap hsx hI (tX5_allows l (by decide) q5 H.size) cv_X5_allows q_t7_2 rfl rfl ⟨Nat.le_of_ble_eq_true rfl, Nat.le_of_ble_eq_true rfl⟩ (by decide) rfl hl.1 rfl (Nat.le_of_ble_eq_true rfl) (dc tbX6_setCost_k 8 rfl) ⟨Nat.le_of_ble_eq_true rfl, Nat.le_of_ble_eq_true rfl⟩ (fun H locs hI => ?_)
    refine lv_if_eq (tgt := 33) hx hb (dc tbX6_setCost_k 9 rfl) rfl (fun c8 => ?_) (fun c8 => ?_)
    · have hf := ite_t c8 hf
      exact tX6_setCost_b33 C hst htb hk0 M hf _ _ _ hI (lv_sub hl [] rfl)
    · have hf := ite_f c8 hf
      refine g_gsW 10 (by decide) hx hb hown hts hsx hI q_t7_38 (dc tbX6_setCost_k 10 rfl) ?_
      refine lv_iconst (v := 2) hx hb (dc tbX6_setCost_k 11 rfl) ic_2 ?_
      refine lv_iload_n hx hb (dc tbX6_setCost_k 12 rfl) rfl (lv_at hl 3 rfl) ?_
      obtain ⟨r10, q9, hf⟩ := cap_s hf
      refine g_callWi hx hb hml hown hts hK hap hsx hI (tX5_allows l (by decide) q9 H.size) cv_X5_allows q_t7_2 rfl rfl ⟨Nat.le_of_ble_eq_true rfl, Nat.le_of_ble_eq_true rfl⟩ (by decide) rfl hl.1 rfl (Nat.le_of_ble_eq_true rfl) (dc tbX6_setCost_k 13 rfl) ⟨Nat.le_of_ble_eq_true rfl, Nat.le_of_ble_eq_true rfl⟩ (fun H locs hI => ?_)
      refine lv_if_ne (tgt := 44) hx hb (dc tbX6_setCost_k 14 rfl) rfl (fun c12 => ?_) (fun c12 => ?_)
      · have hf := ite_f c12 hf
        refine lv_aload_n hx hb (dc tbX6_setCost_k 20 rfl) rfl (lv_at hl 0 rfl) ?_
        refine gg6_5 hx hb hts hown hK hI hk0.1 q_t2_87 (dc tbX6_setCost_k 21 rfl) ?_
        refine lv_aload_n hx hb (dc tbX6_setCost_k 22 rfl) rfl (lv_at hl 0 rfl) ?_
        refine gg6_3 hx hb hts hown hK hI hk0.1 q_t2_85 (dc tbX6_setCost_k 23 rfl) ?_
        obtain ⟨M15, r14, q13, hf⟩ := cal_s hf
        refine g_callVv hx hb hml hown hts hK hap hsx hI (tX0_remember l hk0.2.2.2.2.2.1 hk0.2.2.2.1 q13 H.size) cv_X0_remember q_t3_191 rfl rfl ⟨Nat.le_of_ble_eq_true rfl, Nat.le_of_ble_eq_true rfl⟩ hk0.2.2.2.2.2.1.1 (by simp) rfl rfl rfl hl.1 rfl (Nat.le_of_ble_eq_true rfl) (dc tbX6_setCost_k 24 rfl) ⟨Nat.le_of_ble_eq_true rfl, Nat.le_of_ble_eq_true rfl⟩ (fun H locs hI => ?_)
        refine lv_aload_n hx hb (dc tbX6_setCost_k 25 rfl) rfl (lv_at hl 0 rfl) ?_
        refine gg6_3 hx hb hts hown hK hI hk0.1 q_t2_85 (dc tbX6_setCost_k 26 rfl) ?_
        refine gg1_7 hx hb hts hown hK hI hk0.2.2.2.1.1 q_t1_119 (dc tbX6_setCost_k 27 rfl) ?_
        obtain ⟨x4_62, e16, hf⟩ := bnd_s hf
        refine lv_ei e16 ?_
        refine lv_istore (lv' := [(4, .int x4_62), (0, .ref (ad k0)), (1, .int x1), (2, .int x2), (3, .int x3)]) hx hb (dc tbX6_setCost_k 28 rfl) hl (by decide) rfl (fun ls hl => ?_)
        refine lv_aload_n hx hb (dc tbX6_setCost_k 29 rfl) rfl (lv_at hl 1 rfl) ?_
        refine gg6_3 hx hb hts hown hK hI hk0.1 q_t2_85 (dc tbX6_setCost_k 30 rfl) ?_
        refine lv_iload_n hx hb (dc tbX6_setCost_k 31 rfl) rfl (lv_at hl 2 rfl) ?_
        refine lv_iload_n hx hb (dc tbX6_setCost_k 32 rfl) rfl (lv_at hl 3 rfl) ?_
        refine lv_iload_n hx hb (dc tbX6_setCost_k 33 rfl) rfl (lv_at hl 4 rfl) ?_
        obtain ⟨M19, r18, q17, hf⟩ := cal_s hf
        refine g_callVv hx hb hml hown hts hK hap hsx hI (tX1_putCosts l hk0.2.2.2.1 q17 H.size) cv_X1_putCosts q_t7_40 rfl rfl ⟨Nat.le_of_ble_eq_true rfl, Nat.le_of_ble_eq_true rfl⟩ hk0.2.2.2.1.1 (by simp) rfl rfl rfl hl.1 rfl (Nat.le_of_ble_eq_true rfl) (dc tbX6_setCost_k 34 rfl) ⟨Nat.le_of_ble_eq_true rfl, Nat.le_of_ble_eq_true rfl⟩ (fun H locs hI => ?_)
        refine lv_iload hx hb (dc tbX6_setCost_k 35 rfl) (lv_at hl 0 rfl) ?_
        cases hf
        refine W.widen (k := 1) (n := 6) (Nat.le_of_ble_eq_true rfl) (Nat.le_of_ble_eq_true rfl) ?_
        exact x_ret (g_iret hx hb hr hlk hI (dc tbX6_setCost_k 36 rfl))
      · have hf := ite_t c12 hf
        exact tX6_setCost_b33 C hst htb hk0 M hf _ _ _ hI (lv_sub hl [] rfl)
theorem cv_X6_setCost : cvF RX6 yX6_setCost cX6_setCost 5 (some .int) 3 := ⟨q_t7_35, q_t7_36, q_t1_1, q_t7_37, by decide +kernel⟩
def mX6_undo (k0 : Nat) (M : Mem) : Option (Mem × Int32) := cal (mX0_takeBack 21 5 M) (fun M3 r2 => ite2 (r2 = 0) (some (M3, (-1 : Int32))) (some (M3, (rd M3 21 2))))
set_option maxHeartbeats 4000000 in
set_option maxRecDepth 100000 in
theorem tX6_undo (l : Launch) {G : GT} {kd : Nat → Nat × Nat} {ad : Nat → Nat} {k0 : Nat} (hk0 : kRoot kd k0) {M : Mem} {MO : Mem} {vo : Int32} (hf : mX6_undo k0 M = some (MO, vo)) (n : Nat) : Met l yX6_undo (Cond.code yX6_undo cX6_undo 1 (some .int) :: WA) (rmO 3 0 0) (Pg G kd ad n [.ref (ad k0)] M) (Qg G kd ad n MO (some (.int vo))) 0 0 (AS kd ad n) := by
  refine g_body (own := RX6) (by decide) rfl ?_ (Nat.le_of_ble_eq_true rfl)
  intro p e s m args below meth c C _ H locs ls hI hl
  obtain ⟨hx, hb, hml, hr, hown, hts, hlk, hK, hap, hsx⟩ := id C
  have hl : lv_has ls 1 [(0, .ref (ad k0))] := hl
  unfold mX6_undo at hf
  refine lv_aload_n hx hb (dc tbX6_undo_k 0 rfl) rfl (lv_at hl 0 rfl) ?_
  refine gg6_5 hx hb hts hown hK hI hk0.1 q_t2_87 (dc tbX6_undo_k 1 rfl) ?_
  refine lv_aload_n hx hb (dc tbX6_undo_k 2 rfl) rfl (lv_at hl 0 rfl) ?_
  refine gg6_3 hx hb hts hown hK hI hk0.1 q_t2_85 (dc tbX6_undo_k 3 rfl) ?_
  obtain ⟨M3, r2, q1, hf⟩ := cal_s hf
  refine g_callVi hx hb hml hown hts hK hap hsx hI (tX0_takeBack l hk0.2.2.2.2.2.1 hk0.2.2.2.1 q1 H.size) cv_X0_takeBack q_t3_201 rfl rfl ⟨Nat.le_of_ble_eq_true rfl, Nat.le_of_ble_eq_true rfl⟩ hk0.2.2.2.2.2.1.1 (by simp) rfl rfl rfl hl.1 rfl (Nat.le_of_ble_eq_true rfl) (dc tbX6_undo_k 4 rfl) ⟨Nat.le_of_ble_eq_true rfl, Nat.le_of_ble_eq_true rfl⟩ (fun H locs hI => ?_)
  refine lv_if_eq (tgt := 24) hx hb (dc tbX6_undo_k 5 rfl) rfl (fun c4 => ?_) (fun c4 => ?_)
  · have hf := ite_t c4 hf
    refine lv_iconst (v := -1) hx hb (dc tbX6_undo_k 10 rfl) ic_m1 ?_
    cases hf
    exact g_iret hx hb hr hlk hI (dc tbX6_undo_k 11 rfl)
  · have hf := ite_f c4 hf
    refine lv_aload_n hx hb (dc tbX6_undo_k 6 rfl) rfl (lv_at hl 0 rfl) ?_
    refine gg6_5 hx hb hts hown hK hI hk0.1 q_t2_87 (dc tbX6_undo_k 7 rfl) ?_
    refine gg0_2 hx hb hts hown hK hI hk0.2.2.2.2.2.1.1 q_t1_186 (dc tbX6_undo_k 8 rfl) ?_
    refine lv_goto (tgt := 25) hx hb (dc tbX6_undo_k 9 rfl) rfl ?_
    cases hf
    exact g_iret hx hb hr hlk hI (dc tbX6_undo_k 11 rfl)
theorem cv_X6_undo : cvF RX6 yX6_undo cX6_undo 1 (some .int) 0 := ⟨q_t3_198, q_t3_199, q_t1_1, q_t3_200, by decide +kernel⟩
