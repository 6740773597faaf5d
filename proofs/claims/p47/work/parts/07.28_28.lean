def mX7_lay (k0 : Nat) (x1 : Int32) (x2 : Int32) (x3 : Int32) (x4 : Int32) (M : Mem) : Option (Mem × Unit) := chk (okb x1 86) (bnd (wr M (k0 + 2) (x1).toNatClampNeg x2) (fun M3 => chk (okb (x1 + (1 : Int32)) 86) (bnd (wr M3 (k0 + 2) ((x1 + (1 : Int32))).toNatClampNeg x3) (fun M6 => chk (okb (x1 + (2 : Int32)) 86) (bnd (wr M6 (k0 + 2) ((x1 + (2 : Int32))).toNatClampNeg x4) (fun M9 => some (M9, ())))))))
set_option maxHeartbeats 4000000 in
set_option maxRecDepth 100000 in
theorem tX7_lay (l : Launch) {G : GT} {kd : Nat → Nat × Nat} {ad : Nat → Nat} {k0 : Nat} (hk0 : kModel kd k0) {x1 : Int32} {x2 : Int32} {x3 : Int32} {x4 : Int32} {M : Mem} {MO : Mem} {vo : Unit} (hf : mX7_lay k0 x1 x2 x3 x4 M = some (MO, vo)) (n : Nat) : Met l yX7_lay (Cond.code yX7_lay cX7_lay 5 none :: WA) (rmO 0 0 0) (Pg G kd ad n [.ref (ad k0), .int x1, .int x2, .int x3, .int x4] M) (Qg G kd ad n MO none) 0 0 (AS kd ad n) := by
  refine g_body (own := RX7) (by decide) rfl ?_ (Nat.le_of_ble_eq_true rfl)
  intro p e s m args below meth c C _ H locs ls hI hl
  obtain ⟨hx, hb, hml, hr, hown, hts, hlk, hK, hap, hsx⟩ := id C
  have hl : lv_has ls 5 [(0, .ref (ad k0)), (1, .int x1), (2, .int x2), (3, .int x3), (4, .int x4)] := hl
  unfold mX7_lay at hf
  refine lv_aload_n hx hb (dc tbX7_lay_k 0 rfl) rfl (lv_at hl 0 rfl) ?_
  refine gg7_1 hx hb hts hown hK hI hk0.1 q_t7_77 (dc tbX7_lay_k 1 rfl) ?_
  refine lv_iload_n hx hb (dc tbX7_lay_k 2 rfl) rfl (lv_at hl 1 rfl) ?_
  refine lv_iload_n hx hb (dc tbX7_lay_k 3 rfl) rfl (lv_at hl 2 rfl) ?_
  obtain ⟨h1, hf⟩ := chk_s hf
  obtain ⟨M3, e2, hf⟩ := bnd_s hf
  refine g_iast hx hb hK hap hI hk0.2.2.1 (okb_in h1) (dc tbX7_lay_k 4 rfl) e2 (fun H locs hI => ?_)
  refine lv_aload_n hx hb (dc tbX7_lay_k 5 rfl) rfl (lv_at hl 0 rfl) ?_
  refine gg7_1 hx hb hts hown hK hI hk0.1 q_t7_77 (dc tbX7_lay_k 6 rfl) ?_
  refine lv_iload_n hx hb (dc tbX7_lay_k 7 rfl) rfl (lv_at hl 1 rfl) ?_
  refine lv_iconst (v := 1) hx hb (dc tbX7_lay_k 8 rfl) ic_1 ?_
  refine lv_iadd hx hb (dc tbX7_lay_k 9 rfl) ?_
  refine lv_iload_n hx hb (dc tbX7_lay_k 10 rfl) rfl (lv_at hl 3 rfl) ?_
  obtain ⟨h4, hf⟩ := chk_s hf
  obtain ⟨M6, e5, hf⟩ := bnd_s hf
  refine g_iast hx hb hK hap hI hk0.2.2.1 (okb_in h4) (dc tbX7_lay_k 11 rfl) e5 (fun H locs hI => ?_)
  refine lv_aload_n hx hb (dc tbX7_lay_k 12 rfl) rfl (lv_at hl 0 rfl) ?_
  refine gg7_1 hx hb hts hown hK hI hk0.1 q_t7_77 (dc tbX7_lay_k 13 rfl) ?_
  refine lv_iload_n hx hb (dc tbX7_lay_k 14 rfl) rfl (lv_at hl 1 rfl) ?_
  refine lv_iconst (v := 2) hx hb (dc tbX7_lay_k 15 rfl) ic_2 ?_
  refine lv_iadd hx hb (dc tbX7_lay_k 16 rfl) ?_
  refine lv_iload hx hb (dc tbX7_lay_k 17 rfl) (lv_at hl 4 rfl) ?_
  obtain ⟨h7, hf⟩ := chk_s hf
  obtain ⟨M9, e8, hf⟩ := bnd_s hf
  refine g_iast hx hb hK hap hI hk0.2.2.1 (okb_in h7) (dc tbX7_lay_k 18 rfl) e8 (fun H locs hI => ?_)
  cases hf
  exact g_vret hx hb hr hlk hI (dc tbX7_lay_k 19 rfl)
theorem cv_X7_lay : cvF RX7 yX7_lay cX7_lay 5 none 4 := ⟨q_t7_71, q_s3_4, q_t1_11, q_t7_72, by decide +kernel⟩
def mX7_reset_b2 (k0 : Nat) (ih2 : Int32 → Mem → Option (Mem × Unit)) (x1 : Int32) (M : Mem) : Option (Mem × Unit) := ite2 ((86 : Int32) ≤ x1) (cal (mX7_lay k0 (36 : Int32) (10 : Int32) (10 : Int32) (40 : Int32) M) (fun M4 _ => cal (mX7_lay k0 (39 : Int32) (300 : Int32) (600 : Int32) (300 : Int32) M4) (fun M7 _ => cal (mX7_lay k0 (42 : Int32) (600 : Int32) (200 : Int32) (400 : Int32) M7) (fun M10 _ => cal (mX7_lay k0 (45 : Int32) (0 : Int32) (9999 : Int32) (0 : Int32) M10) (fun M13 _ => cal (mX7_lay k0 (49 : Int32) (1 : Int32) (1 : Int32) (1 : Int32) M13) (fun M16 _ => some (M16, ()))))))) (chk (okb x1 86) (bnd (wr M (k0 + 2) (x1).toNatClampNeg (0 : Int32)) (fun M19 => bnd (x1 + (1 : Int32)) (fun x1_15 => ih2 x1_15 M19))))
set_option maxHeartbeats 4000000 in
set_option maxRecDepth 100000 in
theorem tX7_reset_b2 {p : Program} {l : Launch} {e : Env} {s : State} {m : MethodId} {args : Array Value} {below : List Frame} {meth : Method} {c : Code} {G : GT} {kd : Nat → Nat × Nat} {ad : Nat → Nat} (C : Cx p s m args meth c cX7_reset 2 none RX7 G kd ad) {k0 : Nat} (hk0 : kModel kd k0) {MO : Mem} {vo : Unit} {ih2 : Int32 → Mem → Option (Mem × Unit)} (hih2 : ∀ (x1 : Int32) (M : Mem), ih2 x1 M = some (MO, vo) → At p l e (rmO 1 0 0) s m args below meth c 0 0 (MQ below (Qg G kd ad s.heap.size MO none) args s 0 0 (AS kd ad s.heap.size)) G kd ad 2 2 [(0, .ref (ad k0)), (1, .int x1)] [] M) : ∀ (x1 : Int32) (M : Mem), mX7_reset_b2 k0 ih2 x1 M = some (MO, vo) → At p l e (rmO 1 0 0) s m args below meth c 0 0 (MQ below (Qg G kd ad s.heap.size MO none) args s 0 0 (AS kd ad s.heap.size)) G kd ad 2 2 [(0, .ref (ad k0)), (1, .int x1)] [] M := by
  intro x1 M hf H locs ls hI hl
  obtain ⟨hx, hb, hml, hr, hown, hts, hlk, hK, hap, hsx⟩ := id C
  unfold mX7_reset_b2 at hf
  refine lv_iload_n hx hb (dc tbX7_reset_0_k 2 rfl) rfl (lv_at hl 1 rfl) ?_
  refine lv_bipush (v := 86) hx hb (dc tbX7_reset_0_k 3 rfl) bp_86 ?_
  refine lv_icmp_ge (tgt := 21) hx hb (dc tbX7_reset_0_k 4 rfl) rfl (fun c1 => ?_) (fun c1 => ?_)
  · have hf := ite_t c1 hf
    refine lv_aload_n hx hb (dc tbX7_reset_0_k 12 rfl) rfl (lv_at hl 0 rfl) ?_
    refine lv_bipush (v := 36) hx hb (dc tbX7_reset_0_k 13 rfl) bp_36 ?_
    refine lv_bipush (v := 10) hx hb (dc tbX7_reset_0_k 14 rfl) bp_10 ?_
    refine lv_bipush (v := 10) hx hb (dc tbX7_reset_0_k 15 rfl) bp_10 ?_
    refine lv_bipush (v := 40) hx hb (dc tbX7_reset_0_k 16 rfl) bp_40 ?_
    obtain ⟨M4, r3, q2, hf⟩ := cal_s hf
    refine g_callVv hx hb hml hown hts hK hap hsx hI (tX7_lay l hk0 q2 H.size) cv_X7_lay q_t7_69 rfl rfl ⟨Nat.le_of_ble_eq_true rfl, Nat.le_of_ble_eq_true rfl⟩ hk0.1 (by simp) rfl rfl rfl hl.1 rfl (Nat.le_of_ble_eq_true rfl) (dc tbX7_reset_0_k 17 rfl) ⟨Nat.le_of_ble_eq_true rfl, Nat.le_of_ble_eq_true rfl⟩ (fun H locs hI => ?_)
    refine lv_aload_n hx hb (dc tbX7_reset_0_k 18 rfl) rfl (lv_at hl 0 rfl) ?_
    refine lv_bipush (v := 39) hx hb (dc tbX7_reset_0_k 19 rfl) bp_39 ?_
    refine lv_sipush (v := 300) hx hb (dc tbX7_reset_0_k 20 rfl) sp_300 ?_
    refine lv_sipush (v := 600) hx hb (dc tbX7_reset_0_k 21 rfl) sp_600 ?_
    refine lv_sipush (v := 300) hx hb (dc tbX7_reset_0_k 22 rfl) sp_300 ?_
    obtain ⟨M7, r6, q5, hf⟩ := cal_s hf
    refine g_callVv hx hb hml hown hts hK hap hsx hI (tX7_lay l hk0 q5 H.size) cv_X7_lay q_t7_69 rfl rfl ⟨Nat.le_of_ble_eq_true rfl, Nat.le_of_ble_eq_true rfl⟩ hk0.1 (by simp) rfl rfl rfl hl.1 rfl (Nat.le_of_ble_eq_true rfl) (dc tbX7_reset_0_k 23 rfl) ⟨Nat.le_of_ble_eq_true rfl, Nat.le_of_ble_eq_true rfl⟩ (fun H locs hI => ?_)
    refine lv_aload_n hx hb (dc tbX7_reset_0_k 24 rfl) rfl (lv_at hl 0 rfl) ?_
    refine lv_bipush (v := 42) hx hb (dc tbX7_reset_0_k 25 rfl) bp_42 ?_
    refine lv_sipush (v := 600) hx hb (dc tbX7_reset_0_k 26 rfl) sp_600 ?_
    refine lv_sipush (v := 200) hx hb (dc tbX7_reset_0_k 27 rfl) sp_200 ?_
    refine lv_sipush (v := 400) hx hb (dc tbX7_reset_0_k 28 rfl) sp_400 ?_
    obtain ⟨M10, r9, q8, hf⟩ := cal_s hf
    refine g_callVv hx hb hml hown hts hK hap hsx hI (tX7_lay l hk0 q8 H.size) cv_X7_lay q_t7_69 rfl rfl ⟨Nat.le_of_ble_eq_true rfl, Nat.le_of_ble_eq_true rfl⟩ hk0.1 (by simp) rfl rfl rfl hl.1 rfl (Nat.le_of_ble_eq_true rfl) (dc tbX7_reset_0_k 29 rfl) ⟨Nat.le_of_ble_eq_true rfl, Nat.le_of_ble_eq_true rfl⟩ (fun H locs hI => ?_)
    refine lv_aload_n hx hb (dc tbX7_reset_0_k 30 rfl) rfl (lv_at hl 0 rfl) ?_
    refine lv_bipush (v := 45) hx hb (dc tbX7_reset_0_k 31 rfl) bp_45 ?_
    refine lv_iconst (v := 0) hx hb (dc tbX7_reset_0_k 32 rfl) ic_0 ?_
    refine lv_sipush (v := 9999) hx hb (dc tbX7_reset_0_k 33 rfl) sp_9999 ?_
    refine lv_iconst (v := 0) hx hb (dc tbX7_reset_0_k 34 rfl) ic_0 ?_
    obtain ⟨M13, r12, q11, hf⟩ := cal_s hf
    refine g_callVv hx hb hml hown hts hK hap hsx hI (tX7_lay l hk0 q11 H.size) cv_X7_lay q_t7_69 rfl rfl ⟨Nat.le_of_ble_eq_true rfl, Nat.le_of_ble_eq_true rfl⟩ hk0.1 (by simp) rfl rfl rfl hl.1 rfl (Nat.le_of_ble_eq_true rfl) (dc tbX7_reset_0_k 35 rfl) ⟨Nat.le_of_ble_eq_true rfl, Nat.le_of_ble_eq_true rfl⟩ (fun H locs hI => ?_)
    refine lv_aload_n hx hb (dc tbX7_reset_0_k 36 rfl) rfl (lv_at hl 0 rfl) ?_
    refine lv_bipush (v := 49) hx hb (dc tbX7_reset_0_k 37 rfl) bp_49 ?_
    refine lv_iconst (v := 1) hx hb (dc tbX7_reset_0_k 38 rfl) ic_1 ?_
    refine lv_iconst (v := 1) hx hb (dc tbX7_reset_0_k 39 rfl) ic_1 ?_
    refine lv_iconst (v := 1) hx hb (dc tbX7_reset_1_k 0 rfl) ic_1 ?_
    obtain ⟨M16, r15, q14, hf⟩ := cal_s hf
    refine g_callVv hx hb hml hown hts hK hap hsx hI (tX7_lay l hk0 q14 H.size) cv_X7_lay q_t7_69 rfl rfl ⟨Nat.le_of_ble_eq_true rfl, Nat.le_of_ble_eq_true rfl⟩ hk0.1 (by simp) rfl rfl rfl hl.1 rfl (Nat.le_of_ble_eq_true rfl) (dc tbX7_reset_1_k 1 rfl) ⟨Nat.le_of_ble_eq_true rfl, Nat.le_of_ble_eq_true rfl⟩ (fun H locs hI => ?_)
    cases hf
    exact g_vret hx hb hr hlk hI (dc tbX7_reset_1_k 2 rfl)
  · have hf := ite_f c1 hf
    refine lv_aload_n hx hb (dc tbX7_reset_0_k 5 rfl) rfl (lv_at hl 0 rfl) ?_
    refine gg7_1 hx hb hts hown hK hI hk0.1 q_t7_77 (dc tbX7_reset_0_k 6 rfl) ?_
    refine lv_iload_n hx hb (dc tbX7_reset_0_k 7 rfl) rfl (lv_at hl 1 rfl) ?_
    refine lv_iconst (v := 0) hx hb (dc tbX7_reset_0_k 8 rfl) ic_0 ?_
    obtain ⟨h17, hf⟩ := chk_s hf
    obtain ⟨M19, e18, hf⟩ := bnd_s hf
    refine g_iast hx hb hK hap hI hk0.2.2.1 (okb_in h17) (dc tbX7_reset_0_k 9 rfl) e18 (fun H locs hI => ?_)
    obtain ⟨x1_15, e20, hf⟩ := bnd_s hf
    refine lv_iinc (v := x1_15) (lv' := [(1, .int x1_15), (0, .ref (ad k0))]) hx hb (dc tbX7_reset_0_k 10 rfl) hl (k := 1) rfl (ii_e e20 ic_1) (by decide) rfl (fun ls hl => ?_)
    refine lv_goto (tgt := 2) hx hb (dc tbX7_reset_0_k 11 rfl) rfl ?_
    exact hih2 x1_15 M19 hf _ _ _ hI (lv_sub hl [1, 0] rfl)
def mX7_reset_l2 (k0 : Nat) : Nat → Int32 → Mem → Option (Mem × Unit)
  | 0 => fun _ _ => none
  | n + 1 => mX7_reset_b2 k0 (mX7_reset_l2 k0 n)
theorem tX7_reset_l2 {p : Program} {l : Launch} {e : Env} {s : State} {m : MethodId} {args : Array Value} {below : List Frame} {meth : Method} {c : Code} {G : GT} {kd : Nat → Nat × Nat} {ad : Nat → Nat} (C : Cx p s m args meth c cX7_reset 2 none RX7 G kd ad) {k0 : Nat} (hk0 : kModel kd k0) {MO : Mem} {vo : Unit}   : ∀ (fuel : Nat) (x1 : Int32) (M : Mem), mX7_reset_l2 k0 fuel x1 M = some (MO, vo) → At p l e (rmO 1 0 0) s m args below meth c 0 0 (MQ below (Qg G kd ad s.heap.size MO none) args s 0 0 (AS kd ad s.heap.size)) G kd ad 2 2 [(0, .ref (ad k0)), (1, .int x1)] [] M := by
  intro fuel
  induction fuel with
  | zero => intro x1 M hf; cases hf
  | succ n IH => exact tX7_reset_b2 C hk0 IH
def mX7_reset (k0 : Nat) (M : Mem) : Option (Mem × Unit) := mX7_reset_l2 k0 5000 (0 : Int32) M
set_option maxHeartbeats 4000000 in
set_option maxRecDepth 100000 in
theorem tX7_reset (l : Launch) {G : GT} {kd : Nat → Nat × Nat} {ad : Nat → Nat} {k0 : Nat} (hk0 : kModel kd k0) {M : Mem} {MO : Mem} {vo : Unit} (hf : mX7_reset k0 M = some (MO, vo)) (n : Nat) : Met l yX7_reset (Cond.code yX7_reset cX7_reset 2 none :: WA) (rmO 1 0 0) (Pg G kd ad n [.ref (ad k0)] M) (Qg G kd ad n MO none) 0 0 (AS kd ad n) := by
  refine g_body (own := RX7) (by decide) rfl ?_ (Nat.le_of_ble_eq_true rfl)
  intro p e s m args below meth c C _ H locs ls hI hl
  obtain ⟨hx, hb, hml, hr, hown, hts, hlk, hK, hap, hsx⟩ := id C
  have hl : lv_has ls 2 [(0, .ref (ad k0))] := hl
  unfold mX7_reset at hf
  refine lv_iconst (v := 0) hx hb (dc tbX7_reset_0_k 0 rfl) ic_0 ?_
  refine lv_istore_n (lv' := [(1, .int (0 : Int32)), (0, .ref (ad k0))]) hx hb (dc tbX7_reset_0_k 1 rfl) rfl hl (by decide) rfl (fun ls hl => ?_)
  exact tX7_reset_l2 C hk0 5000 (0 : Int32) M hf _ _ _ hI (lv_sub hl [1, 0] rfl)
theorem cv_X7_reset : cvF RX7 yX7_reset cX7_reset 2 none 0 := ⟨q_t7_67, q_s3_3, q_t1_11, q_t7_68, by decide +kernel⟩
def mX7_copy_b2 (k0 : Nat) (k1 : Nat) (ih2 : Int32 → Mem → Option (Mem × Unit)) (x2 : Int32) (M : Mem) : Option (Mem × Unit) := ite2 ((86 : Int32) ≤ x2) (some (M, ())) (chk (okb x2 86) (chk (okb x2 86) (bnd (wr M k1 (x2).toNatClampNeg (rd M k0 (x2).toNatClampNeg)) (fun M5 => bnd (x2 + (1 : Int32)) (fun x2_14 => ih2 x2_14 M5)))))
set_option maxHeartbeats 4000000 in
set_option maxRecDepth 100000 in
theorem tX7_copy_b2 {p : Program} {l : Launch} {e : Env} {s : State} {m : MethodId} {args : Array Value} {below : List Frame} {meth : Method} {c : Code} {G : GT} {kd : Nat → Nat × Nat} {ad : Nat → Nat} (C : Cx p s m args meth c cX7_copy 3 none RX7 G kd ad) {k0 : Nat} {k1 : Nat} (hk0 : kd k0 = (10, 86)) (hk1 : kd k1 = (10, 86)) {MO : Mem} {vo : Unit} {ih2 : Int32 → Mem → Option (Mem × Unit)} (hih2 : ∀ (x2 : Int32) (M : Mem), ih2 x2 M = some (MO, vo) → At p l e (rmO 0 0 0) s m args below meth c 0 0 (MQ below (Qg G kd ad s.heap.size MO none) args s 0 0 (AS kd ad s.heap.size)) G kd ad 3 2 [(0, .ref (ad k0)), (1, .ref (ad k1)), (2, .int x2)] [] M) : ∀ (x2 : Int32) (M : Mem), mX7_copy_b2 k0 k1 ih2 x2 M = some (MO, vo) → At p l e (rmO 0 0 0) s m args below meth c 0 0 (MQ below (Qg G kd ad s.heap.size MO none) args s 0 0 (AS kd ad s.heap.size)) G kd ad 3 2 [(0, .ref (ad k0)), (1, .ref (ad k1)), (2, .int x2)] [] M := by
  intro x2 M hf H locs ls hI hl
  obtain ⟨hx, hb, hml, hr, hown, hts, hlk, hK, hap, hsx⟩ := id C
  unfold mX7_copy_b2 at hf
  refine lv_iload_n hx hb (dc tbX7_copy_k 2 rfl) rfl (lv_at hl 2 rfl) ?_
  refine lv_bipush (v := 86) hx hb (dc tbX7_copy_k 3 rfl) bp_86 ?_
  refine lv_icmp_ge (tgt := 20) hx hb (dc tbX7_copy_k 4 rfl) rfl (fun c1 => ?_) (fun c1 => ?_)
  · have hf := ite_t c1 hf
    cases hf
    exact g_vret hx hb hr hlk hI (dc tbX7_copy_k 13 rfl)
  · have hf := ite_f c1 hf
    refine lv_aload_n hx hb (dc tbX7_copy_k 5 rfl) rfl (lv_at hl 1 rfl) ?_
    refine lv_iload_n hx hb (dc tbX7_copy_k 6 rfl) rfl (lv_at hl 2 rfl) ?_
    refine lv_aload_n hx hb (dc tbX7_copy_k 7 rfl) rfl (lv_at hl 0 rfl) ?_
    refine lv_iload_n hx hb (dc tbX7_copy_k 8 rfl) rfl (lv_at hl 2 rfl) ?_
    obtain ⟨h2, hf⟩ := chk_s hf
    refine g_iald hx hb hK hI hk0 (okb_in h2) (dc tbX7_copy_k 9 rfl) ?_
    obtain ⟨h3, hf⟩ := chk_s hf
    obtain ⟨M5, e4, hf⟩ := bnd_s hf
    refine g_iast hx hb hK hap hI hk1 (okb_in h3) (dc tbX7_copy_k 10 rfl) e4 (fun H locs hI => ?_)
    obtain ⟨x2_14, e6, hf⟩ := bnd_s hf
    refine lv_iinc (v := x2_14) (lv' := [(2, .int x2_14), (0, .ref (ad k0)), (1, .ref (ad k1))]) hx hb (dc tbX7_copy_k 11 rfl) hl (k := 2) rfl (ii_e e6 ic_1) (by decide) rfl (fun ls hl => ?_)
    refine lv_goto (tgt := 2) hx hb (dc tbX7_copy_k 12 rfl) rfl ?_
    exact hih2 x2_14 M5 hf _ _ _ hI (lv_sub hl [1, 2, 0] rfl)
def mX7_copy_l2 (k0 : Nat) (k1 : Nat) : Nat → Int32 → Mem → Option (Mem × Unit)
  | 0 => fun _ _ => none
  | n + 1 => mX7_copy_b2 k0 k1 (mX7_copy_l2 k0 k1 n)
theorem tX7_copy_l2 {p : Program} {l : Launch} {e : Env} {s : State} {m : MethodId} {args : Array Value} {below : List Frame} {meth : Method} {c : Code} {G : GT} {kd : Nat → Nat × Nat} {ad : Nat → Nat} (C : Cx p s m args meth c cX7_copy 3 none RX7 G kd ad) {k0 : Nat} {k1 : Nat} (hk0 : kd k0 = (10, 86)) (hk1 : kd k1 = (10, 86)) {MO : Mem} {vo : Unit}   : ∀ (fuel : Nat) (x2 : Int32) (M : Mem), mX7_copy_l2 k0 k1 fuel x2 M = some (MO, vo) → At p l e (rmO 0 0 0) s m args below meth c 0 0 (MQ below (Qg G kd ad s.heap.size MO none) args s 0 0 (AS kd ad s.heap.size)) G kd ad 3 2 [(0, .ref (ad k0)), (1, .ref (ad k1)), (2, .int x2)] [] M := by
  intro fuel
  induction fuel with
  | zero => intro x2 M hf; cases hf
  | succ n IH => exact tX7_copy_b2 C hk0 hk1 IH
def mX7_copy (k0 : Nat) (k1 : Nat) (M : Mem) : Option (Mem × Unit) := mX7_copy_l2 k0 k1 5000 (0 : Int32) M
set_option maxHeartbeats 4000000 in
set_option maxRecDepth 100000 in
theorem tX7_copy (l : Launch) {G : GT} {kd : Nat → Nat × Nat} {ad : Nat → Nat} {k0 : Nat} {k1 : Nat} (hk0 : kd k0 = (10, 86)) (hk1 : kd k1 = (10, 86)) {M : Mem} {MO : Mem} {vo : Unit} (hf : mX7_copy k0 k1 M = some (MO, vo)) (n : Nat) : Met l yX7_copy (Cond.code yX7_copy cX7_copy 3 none :: WA) (rmO 0 0 0) (Pg G kd ad n [.ref (ad k0), .ref (ad k1)] M) (Qg G kd ad n MO none) 0 0 (AS kd ad n) := by
  refine g_body (own := RX7) (by decide) rfl ?_ (Nat.le_of_ble_eq_true rfl)
  intro p e s m args below meth c C _ H locs ls hI hl
  obtain ⟨hx, hb, hml, hr, hown, hts, hlk, hK, hap, hsx⟩ := id C
  have hl : lv_has ls 3 [(0, .ref (ad k0)), (1, .ref (ad k1))] := hl
  unfold mX7_copy at hf
  refine lv_iconst (v := 0) hx hb (dc tbX7_copy_k 0 rfl) ic_0 ?_
  refine lv_istore_n (lv' := [(2, .int (0 : Int32)), (0, .ref (ad k0)), (1, .ref (ad k1))]) hx hb (dc tbX7_copy_k 1 rfl) rfl hl (by decide) rfl (fun ls hl => ?_)
  exact tX7_copy_l2 C hk0 hk1 5000 (0 : Int32) M hf _ _ _ hI (lv_sub hl [1, 2, 0] rfl)
theorem cs_X7_copy : csF yX7_copy cX7_copy 3 none 2 := ⟨q_t7_74, q_t1_11, q_t7_75, by decide +kernel⟩
def mX7_thrown (k0 : Nat) (M : Mem) : Option Int32 := some (rd M k0 5)
set_option maxHeartbeats 4000000 in
set_option maxRecDepth 100000 in
theorem tX7_thrown (l : Launch) {G : GT} {kd : Nat → Nat × Nat} {ad : Nat → Nat} {k0 : Nat} (hk0 : kModel kd k0) {M : Mem} {vo : Int32} (hf : mX7_thrown k0 M = some vo) (n : Nat) : Met l yX7_thrown (Cond.code yX7_thrown cX7_thrown 1 (some .int) :: WA) (rmO 0 0 0) (Pg G kd ad n [.ref (ad k0)] M) (Qg G kd ad n M (some (.int vo))) 0 0 (AS kd ad n) := by
  refine g_body (own := RX7) (by decide) rfl ?_ (Nat.le_of_ble_eq_true rfl)
  intro p e s m args below meth c C _ H locs ls hI hl
  obtain ⟨hx, hb, hml, hr, hown, hts, hlk, hK, hap, hsx⟩ := id C
  have hl : lv_has ls 1 [(0, .ref (ad k0))] := hl
  unfold mX7_thrown at hf
  refine lv_aload_n hx hb (dc tbX7_thrown_k 0 rfl) rfl (lv_at hl 0 rfl) ?_
  refine gg7_5 hx hb hts hown hK hI hk0.1 q_t7_81 (dc tbX7_thrown_k 1 rfl) ?_
  cases hf
  exact g_iret hx hb hr hlk hI (dc tbX7_thrown_k 2 rfl)
theorem cv_X7_thrown : cvF RX7 yX7_thrown cX7_thrown 1 (some .int) 0 := ⟨q_t7_171, q_t7_172, q_t1_11, q_t7_173, by decide +kernel⟩
def mX7_between (x0 : Int64) (x2 : Int64) (x4 : Int64) (M : Mem) : Option Int32 := ite2 ((lg_cmp x0 x2) < 0) (some (0 : Int32)) (ite2 (0 < (lg_cmp x0 x4)) (some (0 : Int32)) (some (1 : Int32)))
set_option maxHeartbeats 4000000 in
set_option maxRecDepth 100000 in
theorem tX7_between (l : Launch) {G : GT} {kd : Nat → Nat × Nat} {ad : Nat → Nat}  {x0 : Int64} {x2 : Int64} {x4 : Int64} {M : Mem} {vo : Int32} (hf : mX7_between  x0 x2 x4 M = some vo) (n : Nat) : Met l yX7_between (Cond.code yX7_between cX7_between 6 (some .boolean) :: WA) (rmO 0 0 0) (Pg G kd ad n [.long x0, .long x2, .long x4] M) (Qg G kd ad n M (some (.int vo))) 0 0 (AS kd ad n) := by
  refine g_body (own := RX7) (by decide) rfl ?_ (Nat.le_of_ble_eq_true rfl)
  intro p e s m args below meth c C _ H locs ls hI hl
  obtain ⟨hx, hb, hml, hr, hown, hts, hlk, hK, hap, hsx⟩ := id C
  have hl : lv_has ls 6 [(0, .long x0), (2, .long x2), (4, .long x4)] := hl
  unfold mX7_between at hf
  refine lv_lload_n hx hb (dc tbX7_between_k 0 rfl) rfl (lv_at hl 0 rfl) ?_
  refine lv_lload_n hx hb (dc tbX7_between_k 1 rfl) rfl (lv_at hl 1 rfl) ?_
  refine W.lcmp hx hb (dc tbX7_between_k 2 rfl) ?_
  refine lv_if_lt (tgt := 17) hx hb (dc tbX7_between_k 3 rfl) rfl (fun c1 => ?_) (fun c1 => ?_)
  · have hf := ite_t c1 hf
    refine lv_iconst (v := 0) hx hb (dc tbX7_between_k 10 rfl) ic_0 ?_
    cases hf
    exact g_zret hx hb hr hlk hI rfl (dc tbX7_between_k 11 rfl)
  · have hf := ite_f c1 hf
    refine lv_lload_n hx hb (dc tbX7_between_k 4 rfl) rfl (lv_at hl 0 rfl) ?_
    refine lv_lload hx hb (dc tbX7_between_k 5 rfl) (lv_at hl 2 rfl) ?_
    refine W.lcmp hx hb (dc tbX7_between_k 6 rfl) ?_
    refine lv_if_gt (tgt := 17) hx hb (dc tbX7_between_k 7 rfl) rfl (fun c2 => ?_) (fun c2 => ?_)
    · have hf := ite_t c2 hf
      refine lv_iconst (v := 0) hx hb (dc tbX7_between_k 10 rfl) ic_0 ?_
      cases hf
      exact g_zret hx hb hr hlk hI rfl (dc tbX7_between_k 11 rfl)
    · have hf := ite_f c2 hf
      refine lv_iconst (v := 1) hx hb (dc tbX7_between_k 8 rfl) ic_1 ?_
      refine lv_goto (tgt := 18) hx hb (dc tbX7_between_k 9 rfl) rfl ?_
      cases hf
      exact g_zret hx hb hr hlk hI rfl (dc tbX7_between_k 11 rfl)
theorem cs_X7_between : csF yX7_between cX7_between 6 (some .boolean) 3 := ⟨q_t7_191, q_t1_11, q_t7_192, by decide +kernel⟩
def mX7_good (k0 : Nat) (x1 : Int32) (M : Mem) : Option (Mem × Int32) := ite2 (x1 = 0) (bnd (wr M k0 5 (1 : Int32)) (fun M2 => chk (isB x1) (some (M2, x1)))) (bnd (wr M k0 5 (0 : Int32)) (fun M5 => chk (isB x1) (some (M5, x1))))
set_option maxHeartbeats 4000000 in
set_option maxRecDepth 100000 in
theorem tX7_good (l : Launch) {G : GT} {kd : Nat → Nat × Nat} {ad : Nat → Nat} {k0 : Nat} (hk0 : kModel kd k0) {x1 : Int32} {M : Mem} {MO : Mem} {vo : Int32} (hf : mX7_good k0 x1 M = some (MO, vo)) (n : Nat) : Met l yX7_good (Cond.code yX7_good cX7_good 2 (some .boolean) :: WA) (rmO 0 0 0) (Pg G kd ad n [.ref (ad k0), .int x1] M) (Qg G kd ad n MO (some (.int vo))) 0 0 (AS kd ad n) := by
  refine g_body (own := RX7) (by decide) rfl ?_ (Nat.le_of_ble_eq_true rfl)
  intro p e s m args below meth c C _ H locs ls hI hl
  obtain ⟨hx, hb, hml, hr, hown, hts, hlk, hK, hap, hsx⟩ := id C
  have hl : lv_has ls 2 [(0, .ref (ad k0)), (1, .int x1)] := hl
  unfold mX7_good at hf
  refine lv_aload_n hx hb (dc tbX7_good_k 0 rfl) rfl (lv_at hl 0 rfl) ?_
  refine lv_iload_n hx hb (dc tbX7_good_k 1 rfl) rfl (lv_at hl 1 rfl) ?_
  refine lv_if_eq (tgt := 9) hx hb (dc tbX7_good_k 2 rfl) rfl (fun c1 => ?_) (fun c1 => ?_)
  · have hf := ite_t c1 hf
    refine lv_iconst (v := 1) hx hb (dc tbX7_good_k 5 rfl) ic_1 ?_
    obtain ⟨M2, e3, hf⟩ := bnd_s hf
    refine gp7_5 hx hb hts hown hK hap hI hk0.1 q_t7_81 (dc tbX7_good_k 6 rfl) e3 (fun H locs hI => ?_)
    refine lv_iload_n hx hb (dc tbX7_good_k 7 rfl) rfl (lv_at hl 1 rfl) ?_
    obtain ⟨h4, hf⟩ := chk_s hf
    cases hf
    exact g_zret hx hb hr hlk hI (isB_n h4) (dc tbX7_good_k 8 rfl)
  · have hf := ite_f c1 hf
    refine lv_iconst (v := 0) hx hb (dc tbX7_good_k 3 rfl) ic_0 ?_
    refine lv_goto (tgt := 10) hx hb (dc tbX7_good_k 4 rfl) rfl ?_
    obtain ⟨M5, e6, hf⟩ := bnd_s hf
    refine gp7_5 hx hb hts hown hK hap hI hk0.1 q_t7_81 (dc tbX7_good_k 6 rfl) e6 (fun H locs hI => ?_)
    refine lv_iload_n hx hb (dc tbX7_good_k 7 rfl) rfl (lv_at hl 1 rfl) ?_
    obtain ⟨h7, hf⟩ := chk_s hf
    cases hf
    exact g_zret hx hb hr hlk hI (isB_n h7) (dc tbX7_good_k 8 rfl)
theorem cv_X7_good : cvF RX7 yX7_good cX7_good 2 (some .boolean) 1 := ⟨q_t8_58, q_s4_6, q_t1_11, q_t8_59, by decide +kernel⟩
def mX7_good__b18 (k0 : Nat) (y1 : Int32) (M : Mem) : Option (Mem × Int32) := bnd (wr M k0 5 y1) (fun M3 => ite2 ((rd M3 k0 5) = 0) (some (M3, (1 : Int32))) (some (M3, (0 : Int32))))
set_option maxHeartbeats 4000000 in
set_option maxRecDepth 100000 in
theorem tX7_good__b18 {p : Program} {l : Launch} {e : Env} {s : State} {m : MethodId} {args : Array Value} {below : List Frame} {meth : Method} {c : Code} {G : GT} {kd : Nat → Nat × Nat} {ad : Nat → Nat} (C : Cx p s m args meth c cX7_good_ 3 (some .boolean) RX7 G kd ad) {k0 : Nat} (hk0 : kModel kd k0) {MO : Mem} {vo : Int32}   : ∀ (y1 : Int32) (M : Mem), mX7_good__b18 k0 y1 M = some (MO, vo) → At p l e (rmO 0 0 0) s m args below meth c 0 0 (MQ below (Qg G kd ad s.heap.size MO (some (.int vo))) args s 0 0 (AS kd ad s.heap.size)) G kd ad 3 18 [(0, .ref (ad k0))] [.int y1, .ref (ad k0)] M := by
  intro y1 M hf H locs ls hI hl
  obtain ⟨hx, hb, hml, hr, hown, hts, hlk, hK, hap, hsx⟩ := id C
  unfold mX7_good__b18 at hf
  obtain ⟨M3, e4, hf⟩ := bnd_s hf
  refine gp7_5 hx hb hts hown hK hap hI hk0.1 q_t7_81 (dc tbX7_good__k 10 rfl) e4 (fun H locs hI => ?_)
  refine lv_aload_n hx hb (dc tbX7_good__k 11 rfl) rfl (lv_at hl 0 rfl) ?_
  refine gg7_5 hx hb hts hown hK hI hk0.1 q_t7_81 (dc tbX7_good__k 12 rfl) ?_
  refine lv_if_ne (tgt := 32) hx hb (dc tbX7_good__k 13 rfl) rfl (fun c5 => ?_) (fun c5 => ?_)
  · have hf := ite_f c5 hf
    refine lv_iconst (v := 0) hx hb (dc tbX7_good__k 16 rfl) ic_0 ?_
    cases hf
    exact g_zret hx hb hr hlk hI rfl (dc tbX7_good__k 17 rfl)
  · have hf := ite_t c5 hf
    refine lv_iconst (v := 1) hx hb (dc tbX7_good__k 14 rfl) ic_1 ?_
    refine lv_goto (tgt := 33) hx hb (dc tbX7_good__k 15 rfl) rfl ?_
    cases hf
    exact g_zret hx hb hr hlk hI rfl (dc tbX7_good__k 17 rfl)
def mX7_good_ (k0 : Nat) (x1 : Int32) (x2 : Int32) (M : Mem) : Option (Mem × Int32) := ite2 (x1 = 0) (mX7_good__b18 k0 (1 : Int32) M) (ite2 (x2 = 0) (mX7_good__b18 k0 (2 : Int32) M) (mX7_good__b18 k0 (0 : Int32) M))
set_option maxHeartbeats 4000000 in
set_option maxRecDepth 100000 in
theorem tX7_good_ (l : Launch) {G : GT} {kd : Nat → Nat × Nat} {ad : Nat → Nat} {k0 : Nat} (hk0 : kModel kd k0) {x1 : Int32} {x2 : Int32} {M : Mem} {MO : Mem} {vo : Int32} (hf : mX7_good_ k0 x1 x2 M = some (MO, vo)) (n : Nat) : Met l yX7_good_ (Cond.code yX7_good_ cX7_good_ 3 (some .boolean) :: WA) (rmO 0 0 0) (Pg G kd ad n [.ref (ad k0), .int x1, .int x2] M) (Qg G kd ad n MO (some (.int vo))) 0 0 (AS kd ad n) := by
  refine g_body (own := RX7) (by decide) rfl ?_ (Nat.le_of_ble_eq_true rfl)
  intro p e s m args below meth c C _ H locs ls hI hl
  obtain ⟨hx, hb, hml, hr, hown, hts, hlk, hK, hap, hsx⟩ := id C
  have hl : lv_has ls 3 [(0, .ref (ad k0)), (1, .int x1), (2, .int x2)] := hl
  unfold mX7_good_ at hf
  refine lv_aload_n hx hb (dc tbX7_good__k 0 rfl) rfl (lv_at hl 0 rfl) ?_
  refine lv_iload_n hx hb (dc tbX7_good__k 1 rfl) rfl (lv_at hl 1 rfl) ?_
  refine lv_if_ne (tgt := 9) hx hb (dc tbX7_good__k 2 rfl) rfl (fun c1 => ?_) (fun c1 => ?_)
  · have hf := ite_f c1 hf
    refine lv_iload_n hx hb (dc tbX7_good__k 5 rfl) rfl (lv_at hl 2 rfl) ?_
    refine lv_if_ne (tgt := 17) hx hb (dc tbX7_good__k 6 rfl) rfl (fun c2 => ?_) (fun c2 => ?_)
    · have hf := ite_f c2 hf
      refine lv_iconst (v := 0) hx hb (dc tbX7_good__k 9 rfl) ic_0 ?_
      exact tX7_good__b18 C hk0 (0 : Int32) M hf _ _ _ hI (lv_sub hl [0] rfl)
    · have hf := ite_t c2 hf
      refine lv_iconst (v := 2) hx hb (dc tbX7_good__k 7 rfl) ic_2 ?_
      refine lv_goto (tgt := 18) hx hb (dc tbX7_good__k 8 rfl) rfl ?_
      exact tX7_good__b18 C hk0 (2 : Int32) M hf _ _ _ hI (lv_sub hl [0] rfl)
  · have hf := ite_t c1 hf
    refine lv_iconst (v := 1) hx hb (dc tbX7_good__k 3 rfl) ic_1 ?_
    refine lv_goto (tgt := 18) hx hb (dc tbX7_good__k 4 rfl) rfl ?_
    exact tX7_good__b18 C hk0 (1 : Int32) M hf _ _ _ hI (lv_sub hl [0] rfl)
theorem cv_X7_good_ : cvF RX7 yX7_good_ cX7_good_ 3 (some .boolean) 2 := ⟨q_t8_188, q_s5_2, q_t1_11, q_t8_189, by decide +kernel⟩
def mX7_good___b26 (k0 : Nat) (y1 : Int32) (M : Mem) : Option (Mem × Int32) := bnd (wr M k0 5 y1) (fun M4 => ite2 ((rd M4 k0 5) = 0) (some (M4, (1 : Int32))) (some (M4, (0 : Int32))))
set_option maxHeartbeats 4000000 in
set_option maxRecDepth 100000 in
theorem tX7_good___b26 {p : Program} {l : Launch} {e : Env} {s : State} {m : MethodId} {args : Array Value} {below : List Frame} {meth : Method} {c : Code} {G : GT} {kd : Nat → Nat × Nat} {ad : Nat → Nat} (C : Cx p s m args meth c cX7_good__ 4 (some .boolean) RX7 G kd ad) {k0 : Nat} (hk0 : kModel kd k0) {MO : Mem} {vo : Int32}   : ∀ (y1 : Int32) (M : Mem), mX7_good___b26 k0 y1 M = some (MO, vo) → At p l e (rmO 0 0 0) s m args below meth c 0 0 (MQ below (Qg G kd ad s.heap.size MO (some (.int vo))) args s 0 0 (AS kd ad s.heap.size)) G kd ad 4 26 [(0, .ref (ad k0))] [.int y1, .ref (ad k0)] M := by
  intro y1 M hf H locs ls hI hl
  obtain ⟨hx, hb, hml, hr, hown, hts, hlk, hK, hap, hsx⟩ := id C
  unfold mX7_good___b26 at hf
  obtain ⟨M4, e5, hf⟩ := bnd_s hf
  refine gp7_5 hx hb hts hown hK hap hI hk0.1 q_t7_81 (dc tbX7_good___k 14 rfl) e5 (fun H locs hI => ?_)
  refine lv_aload_n hx hb (dc tbX7_good___k 15 rfl) rfl (lv_at hl 0 rfl) ?_
  refine gg7_5 hx hb hts hown hK hI hk0.1 q_t7_81 (dc tbX7_good___k 16 rfl) ?_
  refine lv_if_ne (tgt := 40) hx hb (dc tbX7_good___k 17 rfl) rfl (fun c6 => ?_) (fun c6 => ?_)
  · have hf := ite_f c6 hf
    refine lv_iconst (v := 0) hx hb (dc tbX7_good___k 20 rfl) ic_0 ?_
    cases hf
    exact g_zret hx hb hr hlk hI rfl (dc tbX7_good___k 21 rfl)
  · have hf := ite_t c6 hf
    refine lv_iconst (v := 1) hx hb (dc tbX7_good___k 18 rfl) ic_1 ?_
    refine lv_goto (tgt := 41) hx hb (dc tbX7_good___k 19 rfl) rfl ?_
    cases hf
    exact g_zret hx hb hr hlk hI rfl (dc tbX7_good___k 21 rfl)
def mX7_good__ (k0 : Nat) (x1 : Int32) (x2 : Int32) (x3 : Int32) (M : Mem) : Option (Mem × Int32) := ite2 (x1 = 0) (mX7_good___b26 k0 (1 : Int32) M) (ite2 (x2 = 0) (mX7_good___b26 k0 (2 : Int32) M) (ite2 (x3 = 0) (mX7_good___b26 k0 (3 : Int32) M) (mX7_good___b26 k0 (0 : Int32) M)))
set_option maxHeartbeats 4000000 in
set_option maxRecDepth 100000 in
theorem tX7_good__ (l : Launch) {G : GT} {kd : Nat → Nat × Nat} {ad : Nat → Nat} {k0 : Nat} (hk0 : kModel kd k0) {x1 : Int32} {x2 : Int32} {x3 : Int32} {M : Mem} {MO : Mem} {vo : Int32} (hf : mX7_good__ k0 x1 x2 x3 M = some (MO, vo)) (n : Nat) : Met l yX7_good__ (Cond.code yX7_good__ cX7_good__ 4 (some .boolean) :: WA) (rmO 0 0 0) (Pg G kd ad n [.ref (ad k0), .int x1, .int x2, .int x3] M) (Qg G kd ad n MO (some (.int vo))) 0 0 (AS kd ad n) := by
  refine g_body (own := RX7) (by decide) rfl ?_ (Nat.le_of_ble_eq_true rfl)
  intro p e s m args below meth c C _ H locs ls hI hl
  obtain ⟨hx, hb, hml, hr, hown, hts, hlk, hK, hap, hsx⟩ := id C
  have hl : lv_has ls 4 [(0, .ref (ad k0)), (1, .int x1), (2, .int x2), (3, .int x3)] := hl
  unfold mX7_good__ at hf
  refine lv_aload_n hx hb (dc tbX7_good___k 0 rfl) rfl (lv_at hl 0 rfl) ?_
  refine lv_iload_n hx hb (dc tbX7_good___k 1 rfl) rfl (lv_at hl 1 rfl) ?_
  refine lv_if_ne (tgt := 9) hx hb (dc tbX7_good___k 2 rfl) rfl (fun c1 => ?_) (fun c1 => ?_)
  · have hf := ite_f c1 hf
    refine lv_iload_n hx hb (dc tbX7_good___k 5 rfl) rfl (lv_at hl 2 rfl) ?_
    refine lv_if_ne (tgt := 17) hx hb (dc tbX7_good___k 6 rfl) rfl (fun c2 => ?_) (fun c2 => ?_)
    · have hf := ite_f c2 hf
      refine lv_iload_n hx hb (dc tbX7_good___k 9 rfl) rfl (lv_at hl 3 rfl) ?_
      refine lv_if_ne (tgt := 25) hx hb (dc tbX7_good___k 10 rfl) rfl (fun c3 => ?_) (fun c3 => ?_)
      · have hf := ite_f c3 hf
        refine lv_iconst (v := 0) hx hb (dc tbX7_good___k 13 rfl) ic_0 ?_
        exact tX7_good___b26 C hk0 (0 : Int32) M hf _ _ _ hI (lv_sub hl [0] rfl)
      · have hf := ite_t c3 hf
        refine lv_iconst (v := 3) hx hb (dc tbX7_good___k 11 rfl) ic_3 ?_
        refine lv_goto (tgt := 26) hx hb (dc tbX7_good___k 12 rfl) rfl ?_
        exact tX7_good___b26 C hk0 (3 : Int32) M hf _ _ _ hI (lv_sub hl [0] rfl)
    · have hf := ite_t c2 hf
      refine lv_iconst (v := 2) hx hb (dc tbX7_good___k 7 rfl) ic_2 ?_
      refine lv_goto (tgt := 26) hx hb (dc tbX7_good___k 8 rfl) rfl ?_
      exact tX7_good___b26 C hk0 (2 : Int32) M hf _ _ _ hI (lv_sub hl [0] rfl)
  · have hf := ite_t c1 hf
    refine lv_iconst (v := 1) hx hb (dc tbX7_good___k 3 rfl) ic_1 ?_
    refine lv_goto (tgt := 26) hx hb (dc tbX7_good___k 4 rfl) rfl ?_
    exact tX7_good___b26 C hk0 (1 : Int32) M hf _ _ _ hI (lv_sub hl [0] rfl)
theorem cv_X7_good__ : cvF RX7 yX7_good__ cX7_good__ 4 (some .boolean) 3 := ⟨q_t9_185, q_s7_2, q_t1_11, q_t9_186, by decide +kernel⟩
def mX7_has (x0 : Int32) (x1 : Int32) (M : Mem) : Option Int32 := ite2 (((x0 >>> (x1 &&& 31)) &&& (1 : Int32)) = (1 : Int32)) (some (1 : Int32)) (some (0 : Int32))
set_option maxHeartbeats 4000000 in
set_option maxRecDepth 100000 in
theorem tX7_has (l : Launch) {G : GT} {kd : Nat → Nat × Nat} {ad : Nat → Nat}  {x0 : Int32} {x1 : Int32} {M : Mem} {vo : Int32} (hf : mX7_has  x0 x1 M = some vo) (n : Nat) : Met l yX7_has (Cond.code yX7_has cX7_has 2 (some .boolean) :: WA) (rmO 0 0 0) (Pg G kd ad n [.int x0, .int x1] M) (Qg G kd ad n M (some (.int vo))) 0 0 (AS kd ad n) := by
  refine g_body (own := RX7) (by decide) rfl ?_ (Nat.le_of_ble_eq_true rfl)
  intro p e s m args below meth c C _ H locs ls hI hl
  obtain ⟨hx, hb, hml, hr, hown, hts, hlk, hK, hap, hsx⟩ := id C
  have hl : lv_has ls 2 [(0, .int x0), (1, .int x1)] := hl
  unfold mX7_has at hf
  refine lv_iload_n hx hb (dc tbX7_has_k 0 rfl) rfl (lv_at hl 0 rfl) ?_
  refine lv_iload_n hx hb (dc tbX7_has_k 1 rfl) rfl (lv_at hl 1 rfl) ?_
  refine lv_ishr hx hb (dc tbX7_has_k 2 rfl) ?_
  refine lv_iconst (v := 1) hx hb (dc tbX7_has_k 3 rfl) ic_1 ?_
  refine lv_iand hx hb (dc tbX7_has_k 4 rfl) ?_
  refine lv_iconst (v := 1) hx hb (dc tbX7_has_k 5 rfl) ic_1 ?_
  refine lv_icmp_ne (tgt := 13) hx hb (dc tbX7_has_k 6 rfl) rfl (fun c1 => ?_) (fun c1 => ?_)
  · have hf := ite_f c1 hf
    refine lv_iconst (v := 0) hx hb (dc tbX7_has_k 9 rfl) ic_0 ?_
    cases hf
    exact g_zret hx hb hr hlk hI rfl (dc tbX7_has_k 10 rfl)
  · have hf := ite_t c1 hf
    refine lv_iconst (v := 1) hx hb (dc tbX7_has_k 7 rfl) ic_1 ?_
    refine lv_goto (tgt := 14) hx hb (dc tbX7_has_k 8 rfl) rfl ?_
    cases hf
    exact g_zret hx hb hr hlk hI rfl (dc tbX7_has_k 10 rfl)
theorem cs_X7_has : csF yX7_has cX7_has 2 (some .boolean) 2 := ⟨q_t8_227, q_t1_11, q_t8_228, by decide +kernel⟩
def mX7_remember_b52 (k0 : Nat) (ih52 : Int32 → Mem → Option (Mem × Unit)) (x1 : Int32) (M : Mem) : Option (Mem × Unit) := ite2 ((86 : Int32) ≤ x1) (bnd (wr M k0 4 ((rd M k0 4) + (1 : Int32))) (fun M3 => some (M3, ()))) (chk (okb x1 86) (chk (okb (((86 : Int32) * (rd M k0 4)) + x1) 860) (bnd (wr M (k0 + 4) ((((86 : Int32) * (rd M k0 4)) + x1)).toNatClampNeg (rd M (k0 + 1) (x1).toNatClampNeg)) (fun M8 => bnd (x1 + (1 : Int32)) (fun x1_78 => ih52 x1_78 M8)))))
set_option maxHeartbeats 4000000 in
set_option maxRecDepth 100000 in
theorem tX7_remember_b52 {p : Program} {l : Launch} {e : Env} {s : State} {m : MethodId} {args : Array Value} {below : List Frame} {meth : Method} {c : Code} {G : GT} {kd : Nat → Nat × Nat} {ad : Nat → Nat} (C : Cx p s m args meth c cX7_remember 2 none RX7 G kd ad) {k0 : Nat} (hk0 : kModel kd k0) {MO : Mem} {vo : Unit} {ih52 : Int32 → Mem → Option (Mem × Unit)} (hih52 : ∀ (x1 : Int32) (M : Mem), ih52 x1 M = some (MO, vo) → At p l e (rmO 0 0 0) s m args below meth c 0 0 (MQ below (Qg G kd ad s.heap.size MO none) args s 0 0 (AS kd ad s.heap.size)) G kd ad 2 52 [(0, .ref (ad k0)), (1, .int x1)] [] M) : ∀ (x1 : Int32) (M : Mem), mX7_remember_b52 k0 ih52 x1 M = some (MO, vo) → At p l e (rmO 0 0 0) s m args below meth c 0 0 (MQ below (Qg G kd ad s.heap.size MO none) args s 0 0 (AS kd ad s.heap.size)) G kd ad 2 52 [(0, .ref (ad k0)), (1, .int x1)] [] M := by
  intro x1 M hf H locs ls hI hl
  obtain ⟨hx, hb, hml, hr, hown, hts, hlk, hK, hap, hsx⟩ := id C
  unfold mX7_remember_b52 at hf
  refine lv_iload_n hx hb (dc tbX7_remember_0_k 29 rfl) rfl (lv_at hl 1 rfl) ?_
  refine lv_bipush (v := 86) hx hb (dc tbX7_remember_0_k 30 rfl) bp_86 ?_
  refine lv_icmp_ge (tgt := 84) hx hb (dc tbX7_remember_0_k 31 rfl) rfl (fun c2 => ?_) (fun c2 => ?_)
  · have hf := ite_t c2 hf
    refine lv_aload_n hx hb (dc tbX7_remember_1_k 7 rfl) rfl (lv_at hl 0 rfl) ?_
    refine lv_dup hx hb (dc tbX7_remember_1_k 8 rfl) rfl ?_
    refine gg7_4 hx hb hts hown hK hI hk0.1 q_t7_80 (dc tbX7_remember_1_k 9 rfl) ?_
    refine lv_iconst (v := 1) hx hb (dc tbX7_remember_1_k 10 rfl) ic_1 ?_
    refine lv_iadd hx hb (dc tbX7_remember_1_k 11 rfl) ?_
    obtain ⟨M3, e4, hf⟩ := bnd_s hf
    refine gp7_4 hx hb hts hown hK hap hI hk0.1 q_t7_80 (dc tbX7_remember_1_k 12 rfl) e4 (fun H locs hI => ?_)
    cases hf
    exact g_vret hx hb hr hlk hI (dc tbX7_remember_1_k 13 rfl)
  · have hf := ite_f c2 hf
    refine lv_aload_n hx hb (dc tbX7_remember_0_k 32 rfl) rfl (lv_at hl 0 rfl) ?_
    refine gg7_3 hx hb hts hown hK hI hk0.1 q_t7_79 (dc tbX7_remember_0_k 33 rfl) ?_
    refine lv_bipush (v := 86) hx hb (dc tbX7_remember_0_k 34 rfl) bp_86 ?_
    refine lv_aload_n hx hb (dc tbX7_remember_0_k 35 rfl) rfl (lv_at hl 0 rfl) ?_
    refine gg7_4 hx hb hts hown hK hI hk0.1 q_t7_80 (dc tbX7_remember_0_k 36 rfl) ?_
    refine lv_imul hx hb (dc tbX7_remember_0_k 37 rfl) ?_
    refine lv_iload_n hx hb (dc tbX7_remember_0_k 38 rfl) rfl (lv_at hl 1 rfl) ?_
    refine lv_iadd hx hb (dc tbX7_remember_0_k 39 rfl) ?_
    refine lv_aload_n hx hb (dc tbX7_remember_1_k 0 rfl) rfl (lv_at hl 0 rfl) ?_
    refine gg7_0 hx hb hts hown hK hI hk0.1 q_t7_76 (dc tbX7_remember_1_k 1 rfl) ?_
    refine lv_iload_n hx hb (dc tbX7_remember_1_k 2 rfl) rfl (lv_at hl 1 rfl) ?_
    obtain ⟨h5, hf⟩ := chk_s hf
    refine g_iald hx hb hK hI hk0.2.1 (okb_in h5) (dc tbX7_remember_1_k 3 rfl) ?_
    obtain ⟨h6, hf⟩ := chk_s hf
    obtain ⟨M8, e7, hf⟩ := bnd_s hf
    refine g_iast hx hb hK hap hI hk0.2.2.2.2.1 (okb_in h6) (dc tbX7_remember_1_k 4 rfl) e7 (fun H locs hI => ?_)
    obtain ⟨x1_78, e9, hf⟩ := bnd_s hf
    refine lv_iinc (v := x1_78) (lv' := [(1, .int x1_78), (0, .ref (ad k0))]) hx hb (dc tbX7_remember_1_k 5 rfl) hl (k := 1) rfl (ii_e e9 ic_1) (by decide) rfl (fun ls hl => ?_)
    refine lv_goto (tgt := 52) hx hb (dc tbX7_remember_1_k 6 rfl) rfl ?_
    exact hih52 x1_78 M8 hf _ _ _ hI (lv_sub hl [1, 0] rfl)
def mX7_remember_l52 (k0 : Nat) : Nat → Int32 → Mem → Option (Mem × Unit)
  | 0 => fun _ _ => none
  | n + 1 => mX7_remember_b52 k0 (mX7_remember_l52 k0 n)
theorem tX7_remember_l52 {p : Program} {l : Launch} {e : Env} {s : State} {m : MethodId} {args : Array Value} {below : List Frame} {meth : Method} {c : Code} {G : GT} {kd : Nat → Nat × Nat} {ad : Nat → Nat} (C : Cx p s m args meth c cX7_remember 2 none RX7 G kd ad) {k0 : Nat} (hk0 : kModel kd k0) {MO : Mem} {vo : Unit}   : ∀ (fuel : Nat) (x1 : Int32) (M : Mem), mX7_remember_l52 k0 fuel x1 M = some (MO, vo) → At p l e (rmO 0 0 0) s m args below meth c 0 0 (MQ below (Qg G kd ad s.heap.size MO none) args s 0 0 (AS kd ad s.heap.size)) G kd ad 2 52 [(0, .ref (ad k0)), (1, .int x1)] [] M := by
  intro fuel
  induction fuel with
  | zero => intro x1 M hf; cases hf
  | succ n IH => exact tX7_remember_b52 C hk0 IH
def mX7_remember_b50 (k0 : Nat) (M : Mem) : Option (Mem × Unit) := mX7_remember_l52 k0 5000 (0 : Int32) M
set_option maxHeartbeats 4000000 in
set_option maxRecDepth 100000 in
theorem tX7_remember_b50 {p : Program} {l : Launch} {e : Env} {s : State} {m : MethodId} {args : Array Value} {below : List Frame} {meth : Method} {c : Code} {G : GT} {kd : Nat → Nat × Nat} {ad : Nat → Nat} (C : Cx p s m args meth c cX7_remember 2 none RX7 G kd ad) {k0 : Nat} (hk0 : kModel kd k0) {MO : Mem} {vo : Unit}   : ∀  (M : Mem), mX7_remember_b50 k0 M = some (MO, vo) → At p l e (rmO 0 0 0) s m args below meth c 0 0 (MQ below (Qg G kd ad s.heap.size MO none) args s 0 0 (AS kd ad s.heap.size)) G kd ad 2 50 [(0, .ref (ad k0))] [] M := by
  intro M hf H locs ls hI hl
  obtain ⟨hx, hb, hml, hr, hown, hts, hlk, hK, hap, hsx⟩ := id C
  unfold mX7_remember_b50 at hf
  refine lv_iconst (v := 0) hx hb (dc tbX7_remember_0_k 27 rfl) ic_0 ?_
  refine lv_istore_n (lv' := [(1, .int (0 : Int32)), (0, .ref (ad k0))]) hx hb (dc tbX7_remember_0_k 28 rfl) rfl hl (by decide) rfl (fun ls hl => ?_)
  exact tX7_remember_l52 C hk0 5000 (0 : Int32) M hf _ _ _ hI (lv_sub hl [1, 0] rfl)
def mX7_remember_b12 (k0 : Nat) (ih12 : Int32 → Mem → Option (Mem × Unit)) (x1 : Int32) (M : Mem) : Option (Mem × Unit) := ite2 ((860 : Int32) ≤ x1) (bnd (wr M k0 4 ((rd M k0 4) - (1 : Int32))) (fun M11 => mX7_remember_b50 k0 M11)) (chk (okb x1 860) (chk (okb (x1 - (86 : Int32)) 860) (bnd (wr M (k0 + 4) ((x1 - (86 : Int32))).toNatClampNeg (rd M (k0 + 4) (x1).toNatClampNeg)) (fun M16 => bnd (x1 + (1 : Int32)) (fun x1_34 => ih12 x1_34 M16)))))
set_option maxHeartbeats 4000000 in
set_option maxRecDepth 100000 in
theorem tX7_remember_b12 {p : Program} {l : Launch} {e : Env} {s : State} {m : MethodId} {args : Array Value} {below : List Frame} {meth : Method} {c : Code} {G : GT} {kd : Nat → Nat × Nat} {ad : Nat → Nat} (C : Cx p s m args meth c cX7_remember 2 none RX7 G kd ad) {k0 : Nat} (hk0 : kModel kd k0) {MO : Mem} {vo : Unit} {ih12 : Int32 → Mem → Option (Mem × Unit)} (hih12 : ∀ (x1 : Int32) (M : Mem), ih12 x1 M = some (MO, vo) → At p l e (rmO 0 0 0) s m args below meth c 0 0 (MQ below (Qg G kd ad s.heap.size MO none) args s 0 0 (AS kd ad s.heap.size)) G kd ad 2 12 [(0, .ref (ad k0)), (1, .int x1)] [] M) : ∀ (x1 : Int32) (M : Mem), mX7_remember_b12 k0 ih12 x1 M = some (MO, vo) → At p l e (rmO 0 0 0) s m args below meth c 0 0 (MQ below (Qg G kd ad s.heap.size MO none) args s 0 0 (AS kd ad s.heap.size)) G kd ad 2 12 [(0, .ref (ad k0)), (1, .int x1)] [] M := by
  intro x1 M hf H locs ls hI hl
  obtain ⟨hx, hb, hml, hr, hown, hts, hlk, hK, hap, hsx⟩ := id C
  unfold mX7_remember_b12 at hf
  refine lv_iload_n hx hb (dc tbX7_remember_0_k 6 rfl) rfl (lv_at hl 1 rfl) ?_
  refine lv_sipush (v := 860) hx hb (dc tbX7_remember_0_k 7 rfl) sp_860 ?_
  refine lv_icmp_ge (tgt := 40) hx hb (dc tbX7_remember_0_k 8 rfl) rfl (fun c10 => ?_) (fun c10 => ?_)
  · have hf := ite_t c10 hf
    refine lv_aload_n hx hb (dc tbX7_remember_0_k 21 rfl) rfl (lv_at hl 0 rfl) ?_
    refine lv_dup hx hb (dc tbX7_remember_0_k 22 rfl) rfl ?_
    refine gg7_4 hx hb hts hown hK hI hk0.1 q_t7_80 (dc tbX7_remember_0_k 23 rfl) ?_
    refine lv_iconst (v := 1) hx hb (dc tbX7_remember_0_k 24 rfl) ic_1 ?_
    refine lv_isub hx hb (dc tbX7_remember_0_k 25 rfl) ?_
    obtain ⟨M11, e12, hf⟩ := bnd_s hf
    refine gp7_4 hx hb hts hown hK hap hI hk0.1 q_t7_80 (dc tbX7_remember_0_k 26 rfl) e12 (fun H locs hI => ?_)
    exact tX7_remember_b50 C hk0 M11 hf _ _ _ hI (lv_sub hl [0] rfl)
  · have hf := ite_f c10 hf
    refine lv_aload_n hx hb (dc tbX7_remember_0_k 9 rfl) rfl (lv_at hl 0 rfl) ?_
    refine gg7_3 hx hb hts hown hK hI hk0.1 q_t7_79 (dc tbX7_remember_0_k 10 rfl) ?_
    refine lv_iload_n hx hb (dc tbX7_remember_0_k 11 rfl) rfl (lv_at hl 1 rfl) ?_
    refine lv_bipush (v := 86) hx hb (dc tbX7_remember_0_k 12 rfl) bp_86 ?_
    refine lv_isub hx hb (dc tbX7_remember_0_k 13 rfl) ?_
    refine lv_aload_n hx hb (dc tbX7_remember_0_k 14 rfl) rfl (lv_at hl 0 rfl) ?_
    refine gg7_3 hx hb hts hown hK hI hk0.1 q_t7_79 (dc tbX7_remember_0_k 15 rfl) ?_
    refine lv_iload_n hx hb (dc tbX7_remember_0_k 16 rfl) rfl (lv_at hl 1 rfl) ?_
    obtain ⟨h13, hf⟩ := chk_s hf
    refine g_iald hx hb hK hI hk0.2.2.2.2.1 (okb_in h13) (dc tbX7_remember_0_k 17 rfl) ?_
    obtain ⟨h14, hf⟩ := chk_s hf
    obtain ⟨M16, e15, hf⟩ := bnd_s hf
    refine g_iast hx hb hK hap hI hk0.2.2.2.2.1 (okb_in h14) (dc tbX7_remember_0_k 18 rfl) e15 (fun H locs hI => ?_)
    obtain ⟨x1_34, e17, hf⟩ := bnd_s hf
    refine lv_iinc (v := x1_34) (lv' := [(1, .int x1_34), (0, .ref (ad k0))]) hx hb (dc tbX7_remember_0_k 19 rfl) hl (k := 1) rfl (ii_e e17 ic_1) (by decide) rfl (fun ls hl => ?_)
    refine lv_goto (tgt := 12) hx hb (dc tbX7_remember_0_k 20 rfl) rfl ?_
    exact hih12 x1_34 M16 hf _ _ _ hI (lv_sub hl [1, 0] rfl)
def mX7_remember_l12 (k0 : Nat) : Nat → Int32 → Mem → Option (Mem × Unit)
  | 0 => fun _ _ => none
  | n + 1 => mX7_remember_b12 k0 (mX7_remember_l12 k0 n)
theorem tX7_remember_l12 {p : Program} {l : Launch} {e : Env} {s : State} {m : MethodId} {args : Array Value} {below : List Frame} {meth : Method} {c : Code} {G : GT} {kd : Nat → Nat × Nat} {ad : Nat → Nat} (C : Cx p s m args meth c cX7_remember 2 none RX7 G kd ad) {k0 : Nat} (hk0 : kModel kd k0) {MO : Mem} {vo : Unit}   : ∀ (fuel : Nat) (x1 : Int32) (M : Mem), mX7_remember_l12 k0 fuel x1 M = some (MO, vo) → At p l e (rmO 0 0 0) s m args below meth c 0 0 (MQ below (Qg G kd ad s.heap.size MO none) args s 0 0 (AS kd ad s.heap.size)) G kd ad 2 12 [(0, .ref (ad k0)), (1, .int x1)] [] M := by
  intro fuel
  induction fuel with
  | zero => intro x1 M hf; cases hf
  | succ n IH => exact tX7_remember_b12 C hk0 IH
def mX7_remember (k0 : Nat) (M : Mem) : Option (Mem × Unit) := ite2 ((rd M k0 4) = (10 : Int32)) (mX7_remember_l12 k0 5000 (86 : Int32) M) (mX7_remember_b50 k0 M)
set_option maxHeartbeats 4000000 in
set_option maxRecDepth 100000 in
theorem tX7_remember (l : Launch) {G : GT} {kd : Nat → Nat × Nat} {ad : Nat → Nat} {k0 : Nat} (hk0 : kModel kd k0) {M : Mem} {MO : Mem} {vo : Unit} (hf : mX7_remember k0 M = some (MO, vo)) (n : Nat) : Met l yX7_remember (Cond.code yX7_remember cX7_remember 2 none :: WA) (rmO 0 0 0) (Pg G kd ad n [.ref (ad k0)] M) (Qg G kd ad n MO none) 0 0 (AS kd ad n) := by
  refine g_body (own := RX7) (by decide) rfl ?_ (Nat.le_of_ble_eq_true rfl)
  intro p e s m args below meth c C _ H locs ls hI hl
  obtain ⟨hx, hb, hml, hr, hown, hts, hlk, hK, hap, hsx⟩ := id C
  have hl : lv_has ls 2 [(0, .ref (ad k0))] := hl
  unfold mX7_remember at hf
  refine lv_aload_n hx hb (dc tbX7_remember_0_k 0 rfl) rfl (lv_at hl 0 rfl) ?_
  refine gg7_4 hx hb hts hown hK hI hk0.1 q_t7_80 (dc tbX7_remember_0_k 1 rfl) ?_
  refine lv_bipush (v := 10) hx hb (dc tbX7_remember_0_k 2 rfl) bp_10 ?_
  refine lv_icmp_ne (tgt := 50) hx hb (dc tbX7_remember_0_k 3 rfl) rfl (fun c1 => ?_) (fun c1 => ?_)
  · have hf := ite_f c1 hf
    exact tX7_remember_b50 C hk0 M hf _ _ _ hI (lv_sub hl [0] rfl)
  · have hf := ite_t c1 hf
    refine lv_bipush (v := 86) hx hb (dc tbX7_remember_0_k 4 rfl) bp_86 ?_
    refine lv_istore_n (lv' := [(1, .int (86 : Int32)), (0, .ref (ad k0))]) hx hb (dc tbX7_remember_0_k 5 rfl) rfl hl (by decide) rfl (fun ls hl => ?_)
    exact tX7_remember_l12 C hk0 5000 (86 : Int32) M hf _ _ _ hI (lv_sub hl [1, 0] rfl)
theorem cv_X7_remember : cvF RX7 yX7_remember cX7_remember 2 none 0 := ⟨q_t9_193, q_s7_4, q_t1_11, q_t9_194, by decide +kernel⟩
def mX7_undo_b26 (k0 : Nat) (ih26 : Int32 → Mem → Option (Mem × Int32)) (x1 : Int32) (M : Mem) : Option (Mem × Int32) := ite2 ((86 : Int32) ≤ x1) (some (M, (rd M k0 4))) (chk (okb (((86 : Int32) * (rd M k0 4)) + x1) 860) (chk (okb x1 86) (bnd (wr M (k0 + 1) (x1).toNatClampNeg (rd M (k0 + 4) ((((86 : Int32) * (rd M k0 4)) + x1)).toNatClampNeg)) (fun M10 => bnd (x1 + (1 : Int32)) (fun x1_52 => ih26 x1_52 M10)))))
set_option maxHeartbeats 4000000 in
set_option maxRecDepth 100000 in
theorem tX7_undo_b26 {p : Program} {l : Launch} {e : Env} {s : State} {m : MethodId} {args : Array Value} {below : List Frame} {meth : Method} {c : Code} {G : GT} {kd : Nat → Nat × Nat} {ad : Nat → Nat} (C : Cx p s m args meth c cX7_undo 2 (some .int) RX7 G kd ad) {k0 : Nat} (hk0 : kModel kd k0) {MO : Mem} {vo : Int32} {ih26 : Int32 → Mem → Option (Mem × Int32)} (hih26 : ∀ (x1 : Int32) (M : Mem), ih26 x1 M = some (MO, vo) → At p l e (rmO 0 0 0) s m args below meth c 0 0 (MQ below (Qg G kd ad s.heap.size MO (some (.int vo))) args s 0 0 (AS kd ad s.heap.size)) G kd ad 2 26 [(0, .ref (ad k0)), (1, .int x1)] [] M) : ∀ (x1 : Int32) (M : Mem), mX7_undo_b26 k0 ih26 x1 M = some (MO, vo) → At p l e (rmO 0 0 0) s m args below meth c 0 0 (MQ below (Qg G kd ad s.heap.size MO (some (.int vo))) args s 0 0 (AS kd ad s.heap.size)) G kd ad 2 26 [(0, .ref (ad k0)), (1, .int x1)] [] M := by
  intro x1 M hf H locs ls hI hl
  obtain ⟨hx, hb, hml, hr, hown, hts, hlk, hK, hap, hsx⟩ := id C
  unfold mX7_undo_b26 at hf
  refine lv_iload_n hx hb (dc tbX7_undo_k 16 rfl) rfl (lv_at hl 1 rfl) ?_
  refine lv_bipush (v := 86) hx hb (dc tbX7_undo_k 17 rfl) bp_86 ?_
  refine lv_icmp_ge (tgt := 58) hx hb (dc tbX7_undo_k 18 rfl) rfl (fun c6 => ?_) (fun c6 => ?_)
  · have hf := ite_t c6 hf
    refine lv_aload_n hx hb (dc tbX7_undo_k 34 rfl) rfl (lv_at hl 0 rfl) ?_
    refine gg7_4 hx hb hts hown hK hI hk0.1 q_t7_80 (dc tbX7_undo_k 35 rfl) ?_
    cases hf
    exact g_iret hx hb hr hlk hI (dc tbX7_undo_k 36 rfl)
  · have hf := ite_f c6 hf
    refine lv_aload_n hx hb (dc tbX7_undo_k 19 rfl) rfl (lv_at hl 0 rfl) ?_
    refine gg7_0 hx hb hts hown hK hI hk0.1 q_t7_76 (dc tbX7_undo_k 20 rfl) ?_
    refine lv_iload_n hx hb (dc tbX7_undo_k 21 rfl) rfl (lv_at hl 1 rfl) ?_
    refine lv_aload_n hx hb (dc tbX7_undo_k 22 rfl) rfl (lv_at hl 0 rfl) ?_
    refine gg7_3 hx hb hts hown hK hI hk0.1 q_t7_79 (dc tbX7_undo_k 23 rfl) ?_
    refine lv_bipush (v := 86) hx hb (dc tbX7_undo_k 24 rfl) bp_86 ?_
    refine lv_aload_n hx hb (dc tbX7_undo_k 25 rfl) rfl (lv_at hl 0 rfl) ?_
    refine gg7_4 hx hb hts hown hK hI hk0.1 q_t7_80 (dc tbX7_undo_k 26 rfl) ?_
    refine lv_imul hx hb (dc tbX7_undo_k 27 rfl) ?_
    refine lv_iload_n hx hb (dc tbX7_undo_k 28 rfl) rfl (lv_at hl 1 rfl) ?_
    refine lv_iadd hx hb (dc tbX7_undo_k 29 rfl) ?_
    obtain ⟨h7, hf⟩ := chk_s hf
    refine g_iald hx hb hK hI hk0.2.2.2.2.1 (okb_in h7) (dc tbX7_undo_k 30 rfl) ?_
    obtain ⟨h8, hf⟩ := chk_s hf
    obtain ⟨M10, e9, hf⟩ := bnd_s hf
    refine g_iast hx hb hK hap hI hk0.2.1 (okb_in h8) (dc tbX7_undo_k 31 rfl) e9 (fun H locs hI => ?_)
    obtain ⟨x1_52, e11, hf⟩ := bnd_s hf
    refine lv_iinc (v := x1_52) (lv' := [(1, .int x1_52), (0, .ref (ad k0))]) hx hb (dc tbX7_undo_k 32 rfl) hl (k := 1) rfl (ii_e e11 ic_1) (by decide) rfl (fun ls hl => ?_)
    refine lv_goto (tgt := 26) hx hb (dc tbX7_undo_k 33 rfl) rfl ?_
    exact hih26 x1_52 M10 hf _ _ _ hI (lv_sub hl [1, 0] rfl)
def mX7_undo_l26 (k0 : Nat) : Nat → Int32 → Mem → Option (Mem × Int32)
  | 0 => fun _ _ => none
  | n + 1 => mX7_undo_b26 k0 (mX7_undo_l26 k0 n)
theorem tX7_undo_l26 {p : Program} {l : Launch} {e : Env} {s : State} {m : MethodId} {args : Array Value} {below : List Frame} {meth : Method} {c : Code} {G : GT} {kd : Nat → Nat × Nat} {ad : Nat → Nat} (C : Cx p s m args meth c cX7_undo 2 (some .int) RX7 G kd ad) {k0 : Nat} (hk0 : kModel kd k0) {MO : Mem} {vo : Int32}   : ∀ (fuel : Nat) (x1 : Int32) (M : Mem), mX7_undo_l26 k0 fuel x1 M = some (MO, vo) → At p l e (rmO 0 0 0) s m args below meth c 0 0 (MQ below (Qg G kd ad s.heap.size MO (some (.int vo))) args s 0 0 (AS kd ad s.heap.size)) G kd ad 2 26 [(0, .ref (ad k0)), (1, .int x1)] [] M := by
  intro fuel
  induction fuel with
  | zero => intro x1 M hf; cases hf
  | succ n IH => exact tX7_undo_b26 C hk0 IH
def mX7_undo (k0 : Nat) (M : Mem) : Option (Mem × Int32) := bnd (wr M k0 5 (0 : Int32)) (fun M1 => ite2 ((rd M1 k0 4) = 0) (some (M1, (-1 : Int32))) (bnd (wr M1 k0 4 ((rd M1 k0 4) - (1 : Int32))) (fun M4 => mX7_undo_l26 k0 5000 (0 : Int32) M4)))
set_option maxHeartbeats 4000000 in
set_option maxRecDepth 100000 in
theorem tX7_undo (l : Launch) {G : GT} {kd : Nat → Nat × Nat} {ad : Nat → Nat} {k0 : Nat} (hk0 : kModel kd k0) {M : Mem} {MO : Mem} {vo : Int32} (hf : mX7_undo k0 M = some (MO, vo)) (n : Nat) : Met l yX7_undo (Cond.code yX7_undo cX7_undo 2 (some .int) :: WA) (rmO 0 0 0) (Pg G kd ad n [.ref (ad k0)] M) (Qg G kd ad n MO (some (.int vo))) 0 0 (AS kd ad n) := by
  refine g_body (own := RX7) (by decide) rfl ?_ (Nat.le_of_ble_eq_true rfl)
  intro p e s m args below meth c C _ H locs ls hI hl
  obtain ⟨hx, hb, hml, hr, hown, hts, hlk, hK, hap, hsx⟩ := id C
  have hl : lv_has ls 2 [(0, .ref (ad k0))] := hl
  unfold mX7_undo at hf
  refine lv_aload_n hx hb (dc tbX7_undo_k 0 rfl) rfl (lv_at hl 0 rfl) ?_
  refine lv_iconst (v := 0) hx hb (dc tbX7_undo_k 1 rfl) ic_0 ?_
  obtain ⟨M1, e2, hf⟩ := bnd_s hf
  refine gp7_5 hx hb hts hown hK hap hI hk0.1 q_t7_81 (dc tbX7_undo_k 2 rfl) e2 (fun H locs hI => ?_)
  refine lv_aload_n hx hb (dc tbX7_undo_k 3 rfl) rfl (lv_at hl 0 rfl) ?_
  refine gg7_4 hx hb hts hown hK hI hk0.1 q_t7_80 (dc tbX7_undo_k 4 rfl) ?_
  refine lv_if_ne (tgt := 14) hx hb (dc tbX7_undo_k 5 rfl) rfl (fun c3 => ?_) (fun c3 => ?_)
  · have hf := ite_f c3 hf
    refine lv_aload_n hx hb (dc tbX7_undo_k 8 rfl) rfl (lv_at hl 0 rfl) ?_
    refine lv_dup hx hb (dc tbX7_undo_k 9 rfl) rfl ?_
    refine gg7_4 hx hb hts hown hK hI hk0.1 q_t7_80 (dc tbX7_undo_k 10 rfl) ?_
    refine lv_iconst (v := 1) hx hb (dc tbX7_undo_k 11 rfl) ic_1 ?_
    refine lv_isub hx hb (dc tbX7_undo_k 12 rfl) ?_
    obtain ⟨M4, e5, hf⟩ := bnd_s hf
    refine gp7_4 hx hb hts hown hK hap hI hk0.1 q_t7_80 (dc tbX7_undo_k 13 rfl) e5 (fun H locs hI => ?_)
    refine lv_iconst (v := 0) hx hb (dc tbX7_undo_k 14 rfl) ic_0 ?_
    refine lv_istore_n (lv' := [(1, .int (0 : Int32)), (0, .ref (ad k0))]) hx hb (dc tbX7_undo_k 15 rfl) rfl hl (by decide) rfl (fun ls hl => ?_)
    exact tX7_undo_l26 C hk0 5000 (0 : Int32) M4 hf _ _ _ hI (lv_sub hl [1, 0] rfl)
  · have hf := ite_t c3 hf
    refine lv_iconst (v := -1) hx hb (dc tbX7_undo_k 6 rfl) ic_m1 ?_
    cases hf
    exact g_iret hx hb hr hlk hI (dc tbX7_undo_k 7 rfl)
theorem cv_X7_undo : cvF RX7 yX7_undo cX7_undo 2 (some .int) 0 := ⟨q_t7_175, q_t7_176, q_t1_11, q_t7_177, by decide +kernel⟩
def mX7_append_b3 (k0 : Nat) (ih3 : Int32 → Int32 → Mem → Option (Mem × Unit)) (x1 : Int32) (x2 : Int32) (M : Mem) : Option (Mem × Unit) := ite2 (x2 < 0) (some (M, ())) (chk (okb (rd M k0 7) 600) (bnd (wr M (k0 + 5) ((rd M k0 7)).toNatClampNeg (((x1).toUInt32 >>> ((x2).toUInt32 &&& Int32.toUInt32 31)).toInt32 &&& (255 : Int32))) (fun M4 => bnd (wr M4 k0 7 ((rd M4 k0 7) + (1 : Int32))) (fun M5 => bnd (x2 + (-8 : Int32)) (fun x2_33 => ih3 x1 x2_33 M5)))))
set_option maxHeartbeats 4000000 in
set_option maxRecDepth 100000 in
theorem tX7_append_b3 {p : Program} {l : Launch} {e : Env} {s : State} {m : MethodId} {args : Array Value} {below : List Frame} {meth : Method} {c : Code} {G : GT} {kd : Nat → Nat × Nat} {ad : Nat → Nat} (C : Cx p s m args meth c cX7_append 3 none RX7 G kd ad) {k0 : Nat} (hk0 : kModel kd k0) {MO : Mem} {vo : Unit} {ih3 : Int32 → Int32 → Mem → Option (Mem × Unit)} (hih3 : ∀ (x1 : Int32) (x2 : Int32) (M : Mem), ih3 x1 x2 M = some (MO, vo) → At p l e (rmO 0 0 0) s m args below meth c 0 0 (MQ below (Qg G kd ad s.heap.size MO none) args s 0 0 (AS kd ad s.heap.size)) G kd ad 3 3 [(0, .ref (ad k0)), (1, .int x1), (2, .int x2)] [] M) : ∀ (x1 : Int32) (x2 : Int32) (M : Mem), mX7_append_b3 k0 ih3 x1 x2 M = some (MO, vo) → At p l e (rmO 0 0 0) s m args below meth c 0 0 (MQ below (Qg G kd ad s.heap.size MO none) args s 0 0 (AS kd ad s.heap.size)) G kd ad 3 3 [(0, .ref (ad k0)), (1, .int x1), (2, .int x2)] [] M := by
  intro x1 x2 M hf H locs ls hI hl
  obtain ⟨hx, hb, hml, hr, hown, hts, hlk, hK, hap, hsx⟩ := id C
  unfold mX7_append_b3 at hf
  refine lv_iload_n hx hb (dc tbX7_append_k 2 rfl) rfl (lv_at hl 2 rfl) ?_
  refine lv_if_lt (tgt := 39) hx hb (dc tbX7_append_k 3 rfl) rfl (fun c1 => ?_) (fun c1 => ?_)
  · have hf := ite_t c1 hf
    cases hf
    exact g_vret hx hb hr hlk hI (dc tbX7_append_k 22 rfl)
  · have hf := ite_f c1 hf
    refine lv_aload_n hx hb (dc tbX7_append_k 4 rfl) rfl (lv_at hl 0 rfl) ?_
    refine gg7_6 hx hb hts hown hK hI hk0.1 q_t7_82 (dc tbX7_append_k 5 rfl) ?_
    refine lv_aload_n hx hb (dc tbX7_append_k 6 rfl) rfl (lv_at hl 0 rfl) ?_
    refine gg7_7 hx hb hts hown hK hI hk0.1 q_t7_83 (dc tbX7_append_k 7 rfl) ?_
    refine lv_iload_n hx hb (dc tbX7_append_k 8 rfl) rfl (lv_at hl 1 rfl) ?_
    refine lv_iload_n hx hb (dc tbX7_append_k 9 rfl) rfl (lv_at hl 2 rfl) ?_
    refine lv_iushr hx hb (dc tbX7_append_k 10 rfl) rfl ?_
    refine lv_sipush (v := 255) hx hb (dc tbX7_append_k 11 rfl) sp_255 ?_
    refine lv_iand hx hb (dc tbX7_append_k 12 rfl) ?_
    obtain ⟨h2, hf⟩ := chk_s hf
    obtain ⟨M4, e3, hf⟩ := bnd_s hf
    refine g_iast hx hb hK hap hI hk0.2.2.2.2.2.1 (okb_in h2) (dc tbX7_append_k 13 rfl) e3 (fun H locs hI => ?_)
    refine lv_aload_n hx hb (dc tbX7_append_k 14 rfl) rfl (lv_at hl 0 rfl) ?_
    refine lv_dup hx hb (dc tbX7_append_k 15 rfl) rfl ?_
    refine gg7_7 hx hb hts hown hK hI hk0.1 q_t7_83 (dc tbX7_append_k 16 rfl) ?_
    refine lv_iconst (v := 1) hx hb (dc tbX7_append_k 17 rfl) ic_1 ?_
    refine lv_iadd hx hb (dc tbX7_append_k 18 rfl) ?_
    obtain ⟨M5, e6, hf⟩ := bnd_s hf
    refine gp7_7 hx hb hts hown hK hap hI hk0.1 q_t7_83 (dc tbX7_append_k 19 rfl) e6 (fun H locs hI => ?_)
    obtain ⟨x2_33, e7, hf⟩ := bnd_s hf
    refine lv_iinc (v := x2_33) (lv' := [(2, .int x2_33), (0, .ref (ad k0)), (1, .int x1)]) hx hb (dc tbX7_append_k 20 rfl) hl (k := 2) rfl (ii_e e7 ic_m8) (by decide) rfl (fun ls hl => ?_)
    refine lv_goto (tgt := 3) hx hb (dc tbX7_append_k 21 rfl) rfl ?_
    exact hih3 x1 x2_33 M5 hf _ _ _ hI (lv_sub hl [1, 2, 0] rfl)
def mX7_append_l3 (k0 : Nat) : Nat → Int32 → Int32 → Mem → Option (Mem × Unit)
  | 0 => fun _ _ _ => none
  | n + 1 => mX7_append_b3 k0 (mX7_append_l3 k0 n)
theorem tX7_append_l3 {p : Program} {l : Launch} {e : Env} {s : State} {m : MethodId} {args : Array Value} {below : List Frame} {meth : Method} {c : Code} {G : GT} {kd : Nat → Nat × Nat} {ad : Nat → Nat} (C : Cx p s m args meth c cX7_append 3 none RX7 G kd ad) {k0 : Nat} (hk0 : kModel kd k0) {MO : Mem} {vo : Unit}   : ∀ (fuel : Nat) (x1 : Int32) (x2 : Int32) (M : Mem), mX7_append_l3 k0 fuel x1 x2 M = some (MO, vo) → At p l e (rmO 0 0 0) s m args below meth c 0 0 (MQ below (Qg G kd ad s.heap.size MO none) args s 0 0 (AS kd ad s.heap.size)) G kd ad 3 3 [(0, .ref (ad k0)), (1, .int x1), (2, .int x2)] [] M := by
  intro fuel
  induction fuel with
  | zero => intro x1 x2 M hf; cases hf
  | succ n IH => exact tX7_append_b3 C hk0 IH
def mX7_append (k0 : Nat) (x1 : Int32) (M : Mem) : Option (Mem × Unit) := mX7_append_l3 k0 5000 x1 (24 : Int32) M
set_option maxHeartbeats 4000000 in
set_option maxRecDepth 100000 in
theorem tX7_append (l : Launch) {G : GT} {kd : Nat → Nat × Nat} {ad : Nat → Nat} {k0 : Nat} (hk0 : kModel kd k0) {x1 : Int32} {M : Mem} {MO : Mem} {vo : Unit} (hf : mX7_append k0 x1 M = some (MO, vo)) (n : Nat) : Met l yX7_append (Cond.code yX7_append cX7_append 3 none :: WA) (rmO 0 0 0) (Pg G kd ad n [.ref (ad k0), .int x1] M) (Qg G kd ad n MO none) 0 0 (AS kd ad n) := by
  refine g_body (own := RX7) (by decide) rfl ?_ (Nat.le_of_ble_eq_true rfl)
  intro p e s m args below meth c C _ H locs ls hI hl
  obtain ⟨hx, hb, hml, hr, hown, hts, hlk, hK, hap, hsx⟩ := id C
  have hl : lv_has ls 3 [(0, .ref (ad k0)), (1, .int x1)] := hl
  unfold mX7_append at hf
  refine lv_bipush (v := 24) hx hb (dc tbX7_append_k 0 rfl) bp_24 ?_
  refine lv_istore_n (lv' := [(2, .int (24 : Int32)), (0, .ref (ad k0)), (1, .int x1)]) hx hb (dc tbX7_append_k 1 rfl) rfl hl (by decide) rfl (fun ls hl => ?_)
  exact tX7_append_l3 C hk0 5000 x1 (24 : Int32) M hf _ _ _ hI (lv_sub hl [1, 2, 0] rfl)
theorem cv_X7_append : cvF RX7 yX7_append cX7_append 3 none 1 := ⟨q_t7_184, q_s3_5, q_t1_11, q_t7_185, by decide +kernel⟩
def mX7_feed (k0 : Nat) (x1 : Int32) (x2 : Int32) (x3 : Int32) (x4 : Int32) (x5 : Int32) (M : Mem) : Option (Mem × Int32) := bnd (wr M k0 5 (0 : Int32)) (fun M1 => ite2 (((rd M1 k0 7) + (20 : Int32)) ≤ (600 : Int32)) (cal (mX7_append k0 x1 M1) (fun M6 _ => cal (mX7_append k0 x2 M6) (fun M9 _ => cal (mX7_append k0 x3 M9) (fun M12 _ => cal (mX7_append k0 x4 M12) (fun M15 _ => cal (mX7_append k0 x5 M15) (fun M18 _ => some (M18, (rd M18 k0 7)))))))) (some (M1, (-2 : Int32))))
set_option maxHeartbeats 4000000 in
set_option maxRecDepth 100000 in
theorem tX7_feed (l : Launch) {G : GT} {kd : Nat → Nat × Nat} {ad : Nat → Nat} {k0 : Nat} (hk0 : kModel kd k0) {x1 : Int32} {x2 : Int32} {x3 : Int32} {x4 : Int32} {x5 : Int32} {M : Mem} {MO : Mem} {vo : Int32} (hf : mX7_feed k0 x1 x2 x3 x4 x5 M = some (MO, vo)) (n : Nat) : Met l yX7_feed (Cond.code yX7_feed cX7_feed 6 (some .int) :: WA) (rmO 1 0 0) (Pg G kd ad n [.ref (ad k0), .int x1, .int x2, .int x3, .int x4, .int x5] M) (Qg G kd ad n MO (some (.int vo))) 0 0 (AS kd ad n) := by
  refine g_body (own := RX7) (by decide) rfl ?_ (Nat.le_of_ble_eq_true rfl)
  intro p e s m args below meth c C _ H locs ls hI hl
  obtain ⟨hx, hb, hml, hr, hown, hts, hlk, hK, hap, hsx⟩ := id C
  have hl : lv_has ls 6 [(0, .ref (ad k0)), (1, .int x1), (2, .int x2), (3, .int x3), (4, .int x4), (5, .int x5)] := hl
  unfold mX7_feed at hf
  refine lv_aload_n hx hb (dc tbX7_feed_k 0 rfl) rfl (lv_at hl 0 rfl) ?_
  refine lv_iconst (v := 0) hx hb (dc tbX7_feed_k 1 rfl) ic_0 ?_
  obtain ⟨M1, e2, hf⟩ := bnd_s hf
  refine gp7_5 hx hb hts hown hK hap hI hk0.1 q_t7_81 (dc tbX7_feed_k 2 rfl) e2 (fun H locs hI => ?_)
  refine lv_aload_n hx hb (dc tbX7_feed_k 3 rfl) rfl (lv_at hl 0 rfl) ?_
  refine gg7_7 hx hb hts hown hK hI hk0.1 q_t7_83 (dc tbX7_feed_k 4 rfl) ?_
  refine lv_bipush (v := 20) hx hb (dc tbX7_feed_k 5 rfl) bp_20 ?_
  refine lv_iadd hx hb (dc tbX7_feed_k 6 rfl) ?_
  refine lv_sipush (v := 600) hx hb (dc tbX7_feed_k 7 rfl) sp_600 ?_
  refine lv_icmp_le (tgt := 21) hx hb (dc tbX7_feed_k 8 rfl) rfl (fun c3 => ?_) (fun c3 => ?_)
  · have hf := ite_t c3 hf
    refine lv_aload_n hx hb (dc tbX7_feed_k 11 rfl) rfl (lv_at hl 0 rfl) ?_
    refine lv_iload_n hx hb (dc tbX7_feed_k 12 rfl) rfl (lv_at hl 1 rfl) ?_
    obtain ⟨M6, r5, q4, hf⟩ := cal_s hf
    refine g_callVv hx hb hml hown hts hK hap hsx hI (tX7_append l hk0 q4 H.size) cv_X7_append q_t7_182 rfl rfl ⟨Nat.le_of_ble_eq_true rfl, Nat.le_of_ble_eq_true rfl⟩ hk0.1 (by simp) rfl rfl rfl hl.1 rfl (Nat.le_of_ble_eq_true rfl) (dc tbX7_feed_k 13 rfl) ⟨Nat.le_of_ble_eq_true rfl, Nat.le_of_ble_eq_true rfl⟩ (fun H locs hI => ?_)
    refine lv_aload_n hx hb (dc tbX7_feed_k 14 rfl) rfl (lv_at hl 0 rfl) ?_
    refine lv_iload_n hx hb (dc tbX7_feed_k 15 rfl) rfl (lv_at hl 2 rfl) ?_
    obtain ⟨M9, r8, q7, hf⟩ := cal_s hf
    refine g_callVv hx hb hml hown hts hK hap hsx hI (tX7_append l hk0 q7 H.size) cv_X7_append q_t7_182 rfl rfl ⟨Nat.le_of_ble_eq_true rfl, Nat.le_of_ble_eq_true rfl⟩ hk0.1 (by simp) rfl rfl rfl hl.1 rfl (Nat.le_of_ble_eq_true rfl) (dc tbX7_feed_k 16 rfl) ⟨Nat.le_of_ble_eq_true rfl, Nat.le_of_ble_eq_true rfl⟩ (fun H locs hI => ?_)
    refine lv_aload_n hx hb (dc tbX7_feed_k 17 rfl) rfl (lv_at hl 0 rfl) ?_
    refine lv_iload_n hx hb (dc tbX7_feed_k 18 rfl) rfl (lv_at hl 3 rfl) ?_
    obtain ⟨M12, r11, q10, hf⟩ := cal_s hf
    refine g_callVv hx hb hml hown hts hK hap hsx hI (tX7_append l hk0 q10 H.size) cv_X7_append q_t7_182 rfl rfl ⟨Nat.le_of_ble_eq_true rfl, Nat.le_of_ble_eq_true rfl⟩ hk0.1 (by simp) rfl rfl rfl hl.1 rfl (Nat.le_of_ble_eq_true rfl) (dc tbX7_feed_k 19 rfl) ⟨Nat.le_of_ble_eq_true rfl, Nat.le_of_ble_eq_true rfl⟩ (fun H locs hI => ?_)
    refine lv_aload_n hx hb (dc tbX7_feed_k 20 rfl) rfl (lv_at hl 0 rfl) ?_
    refine lv_iload hx hb (dc tbX7_feed_k 21 rfl) (lv_at hl 4 rfl) ?_
    obtain ⟨M15, r14, q13, hf⟩ := cal_s hf
    refine g_callVv hx hb hml hown hts hK hap hsx hI (tX7_append l hk0 q13 H.size) cv_X7_append q_t7_182 rfl rfl ⟨Nat.le_of_ble_eq_true rfl, Nat.le_of_ble_eq_true rfl⟩ hk0.1 (by simp) rfl rfl rfl hl.1 rfl (Nat.le_of_ble_eq_true rfl) (dc tbX7_feed_k 22 rfl) ⟨Nat.le_of_ble_eq_true rfl, Nat.le_of_ble_eq_true rfl⟩ (fun H locs hI => ?_)
    refine lv_aload_n hx hb (dc tbX7_feed_k 23 rfl) rfl (lv_at hl 0 rfl) ?_
    refine lv_iload hx hb (dc tbX7_feed_k 24 rfl) (lv_at hl 5 rfl) ?_
    obtain ⟨M18, r17, q16, hf⟩ := cal_s hf
    refine g_callVv hx hb hml hown hts hK hap hsx hI (tX7_append l hk0 q16 H.size) cv_X7_append q_t7_182 rfl rfl ⟨Nat.le_of_ble_eq_true rfl, Nat.le_of_ble_eq_true rfl⟩ hk0.1 (by simp) rfl rfl rfl hl.1 rfl (Nat.le_of_ble_eq_true rfl) (dc tbX7_feed_k 25 rfl) ⟨Nat.le_of_ble_eq_true rfl, Nat.le_of_ble_eq_true rfl⟩ (fun H locs hI => ?_)
    refine lv_aload_n hx hb (dc tbX7_feed_k 26 rfl) rfl (lv_at hl 0 rfl) ?_
    refine gg7_7 hx hb hts hown hK hI hk0.1 q_t7_83 (dc tbX7_feed_k 27 rfl) ?_
    cases hf
    exact g_iret hx hb hr hlk hI (dc tbX7_feed_k 28 rfl)
  · have hf := ite_f c3 hf
    refine lv_bipush (v := -2) hx hb (dc tbX7_feed_k 9 rfl) bp_m2 ?_
    cases hf
    exact g_iret hx hb hr hlk hI (dc tbX7_feed_k 10 rfl)
theorem cv_X7_feed : cvF RX7 yX7_feed cX7_feed 6 (some .int) 5 := ⟨q_t7_179, q_t7_180, q_t1_11, q_t7_181, by decide +kernel⟩
def mX7_byteAt (k0 : Nat) (x1 : Int32) (M : Mem) : Option Int32 := ite2 ((rd M k0 10) ≤ x1) (some (-1 : Int32)) (chk (okb x1 600) (some (rd M (k0 + 5) (x1).toNatClampNeg)))
set_option maxHeartbeats 4000000 in
set_option maxRecDepth 100000 in
theorem tX7_byteAt (l : Launch) {G : GT} {kd : Nat → Nat × Nat} {ad : Nat → Nat} {k0 : Nat} (hk0 : kModel kd k0) {x1 : Int32} {M : Mem} {vo : Int32} (hf : mX7_byteAt k0 x1 M = some vo) (n : Nat) : Met l yX7_byteAt (Cond.code yX7_byteAt cX7_byteAt 2 (some .int) :: WA) (rmO 0 0 0) (Pg G kd ad n [.ref (ad k0), .int x1] M) (Qg G kd ad n M (some (.int vo))) 0 0 (AS kd ad n) := by
  refine g_body (own := RX7) (by decide) rfl ?_ (Nat.le_of_ble_eq_true rfl)
  intro p e s m args below meth c C _ H locs ls hI hl
  obtain ⟨hx, hb, hml, hr, hown, hts, hlk, hK, hap, hsx⟩ := id C
  have hl : lv_has ls 2 [(0, .ref (ad k0)), (1, .int x1)] := hl
  unfold mX7_byteAt at hf
  refine lv_iload_n hx hb (dc tbX7_byteAt_k 0 rfl) rfl (lv_at hl 1 rfl) ?_
  refine lv_aload_n hx hb (dc tbX7_byteAt_k 1 rfl) rfl (lv_at hl 0 rfl) ?_
  refine gg7_10 hx hb hts hown hK hI hk0.1 q_t7_86 (dc tbX7_byteAt_k 2 rfl) ?_
  refine lv_icmp_ge (tgt := 17) hx hb (dc tbX7_byteAt_k 3 rfl) rfl (fun c1 => ?_) (fun c1 => ?_)
  · have hf := ite_t c1 hf
    refine lv_iconst (v := -1) hx hb (dc tbX7_byteAt_k 9 rfl) ic_m1 ?_
    cases hf
    exact g_iret hx hb hr hlk hI (dc tbX7_byteAt_k 10 rfl)
  · have hf := ite_f c1 hf
    refine lv_aload_n hx hb (dc tbX7_byteAt_k 4 rfl) rfl (lv_at hl 0 rfl) ?_
    refine gg7_6 hx hb hts hown hK hI hk0.1 q_t7_82 (dc tbX7_byteAt_k 5 rfl) ?_
    refine lv_iload_n hx hb (dc tbX7_byteAt_k 6 rfl) rfl (lv_at hl 1 rfl) ?_
    obtain ⟨h2, hf⟩ := chk_s hf
    refine g_iald hx hb hK hI hk0.2.2.2.2.2.1 (okb_in h2) (dc tbX7_byteAt_k 7 rfl) ?_
    refine lv_goto (tgt := 18) hx hb (dc tbX7_byteAt_k 8 rfl) rfl ?_
    cases hf
    exact g_iret hx hb hr hlk hI (dc tbX7_byteAt_k 10 rfl)
theorem cv_X7_byteAt : cvF RX7 yX7_byteAt cX7_byteAt 2 (some .int) 1 := ⟨q_t7_199, q_s3_7, q_t1_11, q_t7_200, by decide +kernel⟩
def mX7_isLetter (x0 : Int32) (M : Mem) : Option Int32 := ite2 (x0 < (97 : Int32)) (some (0 : Int32)) (ite2 ((122 : Int32) < x0) (some (0 : Int32)) (some (1 : Int32)))
set_option maxHeartbeats 4000000 in
set_option maxRecDepth 100000 in
theorem tX7_isLetter (l : Launch) {G : GT} {kd : Nat → Nat × Nat} {ad : Nat → Nat}  {x0 : Int32} {M : Mem} {vo : Int32} (hf : mX7_isLetter  x0 M = some vo) (n : Nat) : Met l yX7_isLetter (Cond.code yX7_isLetter cX7_isLetter 1 (some .boolean) :: WA) (rmO 0 0 0) (Pg G kd ad n [.int x0] M) (Qg G kd ad n M (some (.int vo))) 0 0 (AS kd ad n) := by
  refine g_body (own := RX7) (by decide) rfl ?_ (Nat.le_of_ble_eq_true rfl)
  intro p e s m args below meth c C _ H locs ls hI hl
  obtain ⟨hx, hb, hml, hr, hown, hts, hlk, hK, hap, hsx⟩ := id C
  have hl : lv_has ls 1 [(0, .int x0)] := hl
  unfold mX7_isLetter at hf
  refine lv_iload_n hx hb (dc tbX7_isLetter_k 0 rfl) rfl (lv_at hl 0 rfl) ?_
  refine lv_bipush (v := 97) hx hb (dc tbX7_isLetter_k 1 rfl) bp_97 ?_
  refine lv_icmp_lt (tgt := 16) hx hb (dc tbX7_isLetter_k 2 rfl) rfl (fun c1 => ?_) (fun c1 => ?_)
  · have hf := ite_t c1 hf
    refine lv_iconst (v := 0) hx hb (dc tbX7_isLetter_k 8 rfl) ic_0 ?_
    cases hf
    exact g_zret hx hb hr hlk hI rfl (dc tbX7_isLetter_k 9 rfl)
  · have hf := ite_f c1 hf
    refine lv_iload_n hx hb (dc tbX7_isLetter_k 3 rfl) rfl (lv_at hl 0 rfl) ?_
    refine lv_bipush (v := 122) hx hb (dc tbX7_isLetter_k 4 rfl) bp_122 ?_
    refine lv_icmp_gt (tgt := 16) hx hb (dc tbX7_isLetter_k 5 rfl) rfl (fun c2 => ?_) (fun c2 => ?_)
    · have hf := ite_t c2 hf
      refine lv_iconst (v := 0) hx hb (dc tbX7_isLetter_k 8 rfl) ic_0 ?_
      cases hf
      exact g_zret hx hb hr hlk hI rfl (dc tbX7_isLetter_k 9 rfl)
    · have hf := ite_f c2 hf
      refine lv_iconst (v := 1) hx hb (dc tbX7_isLetter_k 6 rfl) ic_1 ?_
      refine lv_goto (tgt := 17) hx hb (dc tbX7_isLetter_k 7 rfl) rfl ?_
      cases hf
      exact g_zret hx hb hr hlk hI rfl (dc tbX7_isLetter_k 9 rfl)
theorem cs_X7_isLetter : csF yX7_isLetter cX7_isLetter 1 (some .boolean) 1 := ⟨q_t7_202, q_t1_11, q_t7_203, by decide +kernel⟩
def mX7_isDigit (x0 : Int32) (M : Mem) : Option Int32 := ite2 (x0 < (48 : Int32)) (some (0 : Int32)) (ite2 ((57 : Int32) < x0) (some (0 : Int32)) (some (1 : Int32)))
set_option maxHeartbeats 4000000 in
set_option maxRecDepth 100000 in
theorem tX7_isDigit (l : Launch) {G : GT} {kd : Nat → Nat × Nat} {ad : Nat → Nat}  {x0 : Int32} {M : Mem} {vo : Int32} (hf : mX7_isDigit  x0 M = some vo) (n : Nat) : Met l yX7_isDigit (Cond.code yX7_isDigit cX7_isDigit 1 (some .boolean) :: WA) (rmO 0 0 0) (Pg G kd ad n [.int x0] M) (Qg G kd ad n M (some (.int vo))) 0 0 (AS kd ad n) := by
  refine g_body (own := RX7) (by decide) rfl ?_ (Nat.le_of_ble_eq_true rfl)
  intro p e s m args below meth c C _ H locs ls hI hl
  obtain ⟨hx, hb, hml, hr, hown, hts, hlk, hK, hap, hsx⟩ := id C
  have hl : lv_has ls 1 [(0, .int x0)] := hl
  unfold mX7_isDigit at hf
  refine lv_iload_n hx hb (dc tbX7_isDigit_k 0 rfl) rfl (lv_at hl 0 rfl) ?_
  refine lv_bipush (v := 48) hx hb (dc tbX7_isDigit_k 1 rfl) bp_48 ?_
  refine lv_icmp_lt (tgt := 16) hx hb (dc tbX7_isDigit_k 2 rfl) rfl (fun c1 => ?_) (fun c1 => ?_)
  · have hf := ite_t c1 hf
    refine lv_iconst (v := 0) hx hb (dc tbX7_isDigit_k 8 rfl) ic_0 ?_
    cases hf
    exact g_zret hx hb hr hlk hI rfl (dc tbX7_isDigit_k 9 rfl)
  · have hf := ite_f c1 hf
    refine lv_iload_n hx hb (dc tbX7_isDigit_k 3 rfl) rfl (lv_at hl 0 rfl) ?_
    refine lv_bipush (v := 57) hx hb (dc tbX7_isDigit_k 4 rfl) bp_57 ?_
    refine lv_icmp_gt (tgt := 16) hx hb (dc tbX7_isDigit_k 5 rfl) rfl (fun c2 => ?_) (fun c2 => ?_)
    · have hf := ite_t c2 hf
      refine lv_iconst (v := 0) hx hb (dc tbX7_isDigit_k 8 rfl) ic_0 ?_
      cases hf
      exact g_zret hx hb hr hlk hI rfl (dc tbX7_isDigit_k 9 rfl)
    · have hf := ite_f c2 hf
      refine lv_iconst (v := 1) hx hb (dc tbX7_isDigit_k 6 rfl) ic_1 ?_
      refine lv_goto (tgt := 17) hx hb (dc tbX7_isDigit_k 7 rfl) rfl ?_
      cases hf
      exact g_zret hx hb hr hlk hI rfl (dc tbX7_isDigit_k 9 rfl)
theorem cs_X7_isDigit : csF yX7_isDigit cX7_isDigit 1 (some .boolean) 1 := ⟨q_t7_205, q_t1_11, q_t7_206, by decide +kernel⟩
def mX7_advance_b26 (k0 : Nat) (ih0 : Mem → Option (Mem × Int32)) (M : Mem) : Option (Mem × Int32) := bnd (wr M k0 12 ((rd M k0 12) + (1 : Int32))) (fun M5 => ih0 M5)
set_option maxHeartbeats 4000000 in
set_option maxRecDepth 100000 in
theorem tX7_advance_b26 {p : Program} {l : Launch} {e : Env} {s : State} {m : MethodId} {args : Array Value} {below : List Frame} {meth : Method} {c : Code} {G : GT} {kd : Nat → Nat × Nat} {ad : Nat → Nat} (C : Cx p s m args meth c cX7_advance 2 (some .boolean) RX7 G kd ad) {k0 : Nat} (hk0 : kModel kd k0) {MO : Mem} {vo : Int32} {ih0 : Mem → Option (Mem × Int32)} (hih0 : ∀  (M : Mem), ih0 M = some (MO, vo) → At p l e (rmO 1 0 0) s m args below meth c 0 0 (MQ below (Qg G kd ad s.heap.size MO (some (.int vo))) args s 0 0 (AS kd ad s.heap.size)) G kd ad 2 0 [(0, .ref (ad k0))] [] M) : ∀  (M : Mem), mX7_advance_b26 k0 ih0 M = some (MO, vo) → At p l e (rmO 1 0 0) s m args below meth c 0 0 (MQ below (Qg G kd ad s.heap.size MO (some (.int vo))) args s 0 0 (AS kd ad s.heap.size)) G kd ad 2 26 [(0, .ref (ad k0))] [] M := by
  intro M hf H locs ls hI hl
  obtain ⟨hx, hb, hml, hr, hown, hts, hlk, hK, hap, hsx⟩ := id C
  unfold mX7_advance_b26 at hf
  refine lv_aload_n hx hb (dc tbX7_advance_0_k 12 rfl) rfl (lv_at hl 0 rfl) ?_
  refine lv_dup hx hb (dc tbX7_advance_0_k 13 rfl) rfl ?_
  refine gg7_12 hx hb hts hown hK hI hk0.1 q_t7_88 (dc tbX7_advance_0_k 14 rfl) ?_
  refine lv_iconst (v := 1) hx hb (dc tbX7_advance_0_k 15 rfl) ic_1 ?_
  refine lv_iadd hx hb (dc tbX7_advance_0_k 16 rfl) ?_
  obtain ⟨M5, e6, hf⟩ := bnd_s hf
  refine gp7_12 hx hb hts hown hK hap hI hk0.1 q_t7_88 (dc tbX7_advance_0_k 17 rfl) e6 (fun H locs hI => ?_)
  refine lv_goto (tgt := 0) hx hb (dc tbX7_advance_0_k 18 rfl) rfl ?_
  exact hih0 M5 hf _ _ _ hI (lv_sub hl [0] rfl)
def mX7_advance_b230 (k0 : Nat) (y1 : Int32) (M : Mem) : Option (Mem × Int32) := bnd (wr M k0 13 y1) (fun M42 => some (M42, (1 : Int32)))
set_option maxHeartbeats 4000000 in
set_option maxRecDepth 100000 in
theorem tX7_advance_b230 {p : Program} {l : Launch} {e : Env} {s : State} {m : MethodId} {args : Array Value} {below : List Frame} {meth : Method} {c : Code} {G : GT} {kd : Nat → Nat × Nat} {ad : Nat → Nat} (C : Cx p s m args meth c cX7_advance 2 (some .boolean) RX7 G kd ad) {k0 : Nat} (hk0 : kModel kd k0) {MO : Mem} {vo : Int32}   : ∀ (y1 : Int32) (M : Mem), mX7_advance_b230 k0 y1 M = some (MO, vo) → At p l e (rmO 1 0 0) s m args below meth c 0 0 (MQ below (Qg G kd ad s.heap.size MO (some (.int vo))) args s 0 0 (AS kd ad s.heap.size)) G kd ad 2 230 [] [.int y1, .ref (ad k0)] M := by
  intro y1 M hf H locs ls hI hl
  obtain ⟨hx, hb, hml, hr, hown, hts, hlk, hK, hap, hsx⟩ := id C
  unfold mX7_advance_b230 at hf
  obtain ⟨M42, e43, hf⟩ := bnd_s hf
  refine gp7_13 hx hb hts hown hK hap hI hk0.1 q_t7_89 (dc tbX7_advance_2_k 37 rfl) e43 (fun H locs hI => ?_)
  refine lv_goto (tgt := 261) hx hb (dc tbX7_advance_2_k 38 rfl) rfl ?_
  refine lv_iconst (v := 1) hx hb (dc tbX7_advance_3_k 13 rfl) ic_1 ?_
  cases hf
  exact g_zret hx hb hr hlk hI rfl (dc tbX7_advance_3_k 14 rfl)
def mX7_advance_b195 (k0 : Nat) (ih141 : Mem → Option (Mem × Int32)) (y1 : Int32) (M : Mem) : Option (Mem × Int32) := bnd (wr M k0 14 y1) (fun M45 => bnd (wr M45 k0 12 ((rd M45 k0 12) + (1 : Int32))) (fun M47 => ih141 M47))
set_option maxHeartbeats 4000000 in
set_option maxRecDepth 100000 in
theorem tX7_advance_b195 {p : Program} {l : Launch} {e : Env} {s : State} {m : MethodId} {args : Array Value} {below : List Frame} {meth : Method} {c : Code} {G : GT} {kd : Nat → Nat × Nat} {ad : Nat → Nat} (C : Cx p s m args meth c cX7_advance 2 (some .boolean) RX7 G kd ad) {k0 : Nat} (hk0 : kModel kd k0) {MO : Mem} {vo : Int32} {ih141 : Mem → Option (Mem × Int32)} (hih141 : ∀  (M : Mem), ih141 M = some (MO, vo) → At p l e (rmO 1 0 0) s m args below meth c 0 0 (MQ below (Qg G kd ad s.heap.size MO (some (.int vo))) args s 0 0 (AS kd ad s.heap.size)) G kd ad 2 141 [(0, .ref (ad k0))] [] M) : ∀ (y1 : Int32) (M : Mem), mX7_advance_b195 k0 ih141 y1 M = some (MO, vo) → At p l e (rmO 1 0 0) s m args below meth c 0 0 (MQ below (Qg G kd ad s.heap.size MO (some (.int vo))) args s 0 0 (AS kd ad s.heap.size)) G kd ad 2 195 [(0, .ref (ad k0))] [.int y1, .ref (ad k0)] M := by
  intro y1 M hf H locs ls hI hl
  obtain ⟨hx, hb, hml, hr, hown, hts, hlk, hK, hap, hsx⟩ := id C
  unfold mX7_advance_b195 at hf
  obtain ⟨M45, e46, hf⟩ := bnd_s hf
  refine gp7_14 hx hb hts hown hK hap hI hk0.1 q_t7_90 (dc tbX7_advance_2_k 18 rfl) e46 (fun H locs hI => ?_)
  refine lv_aload_n hx hb (dc tbX7_advance_2_k 19 rfl) rfl (lv_at hl 0 rfl) ?_
  refine lv_dup hx hb (dc tbX7_advance_2_k 20 rfl) rfl ?_
  refine gg7_12 hx hb hts hown hK hI hk0.1 q_t7_88 (dc tbX7_advance_2_k 21 rfl) ?_
  refine lv_iconst (v := 1) hx hb (dc tbX7_advance_2_k 22 rfl) ic_1 ?_
  refine lv_iadd hx hb (dc tbX7_advance_2_k 23 rfl) ?_
  obtain ⟨M47, e48, hf⟩ := bnd_s hf
  refine gp7_12 hx hb hts hown hK hap hI hk0.1 q_t7_88 (dc tbX7_advance_2_k 24 rfl) e48 (fun H locs hI => ?_)
  refine lv_goto (tgt := 141) hx hb (dc tbX7_advance_2_k 25 rfl) rfl ?_
  exact hih141 M47 hf _ _ _ hI (lv_sub hl [0] rfl)
def mX7_advance_b141 (k0 : Nat) (ih141 : Mem → Option (Mem × Int32)) (M : Mem) : Option (Mem × Int32) := cap (mX7_byteAt k0 (rd M k0 12) M) (fun r35 => cap (mX7_isDigit r35 M) (fun r38 => ite2 (r38 = 0) (ite2 (((rd M k0 12) - (rd M k0 11)) ≤ (4 : Int32)) (mX7_advance_b230 k0 (3 : Int32) M) (mX7_advance_b230 k0 (1 : Int32) M)) (ite2 ((4 : Int32) ≤ ((rd M k0 12) - (rd M k0 11))) (mX7_advance_b195 k0 ih141 (rd M k0 14) M) (cap (mX7_byteAt k0 (rd M k0 12) M) (fun r50 => mX7_advance_b195 k0 ih141 ((((10 : Int32) * (rd M k0 14)) + r50) - (48 : Int32)) M)))))
set_option maxHeartbeats 4000000 in
set_option maxRecDepth 100000 in
theorem tX7_advance_b141 {p : Program} {l : Launch} {e : Env} {s : State} {m : MethodId} {args : Array Value} {below : List Frame} {meth : Method} {c : Code} {G : GT} {kd : Nat → Nat × Nat} {ad : Nat → Nat} (C : Cx p s m args meth c cX7_advance 2 (some .boolean) RX7 G kd ad) {k0 : Nat} (hk0 : kModel kd k0) {MO : Mem} {vo : Int32} {ih141 : Mem → Option (Mem × Int32)} (hih141 : ∀  (M : Mem), ih141 M = some (MO, vo) → At p l e (rmO 1 0 0) s m args below meth c 0 0 (MQ below (Qg G kd ad s.heap.size MO (some (.int vo))) args s 0 0 (AS kd ad s.heap.size)) G kd ad 2 141 [(0, .ref (ad k0))] [] M) : ∀  (M : Mem), mX7_advance_b141 k0 ih141 M = some (MO, vo) → At p l e (rmO 1 0 0) s m args below meth c 0 0 (MQ below (Qg G kd ad s.heap.size MO (some (.int vo))) args s 0 0 (AS kd ad s.heap.size)) G kd ad 2 141 [(0, .ref (ad k0))] [] M := by
  intro M hf H locs ls hI hl
  obtain ⟨hx, hb, hml, hr, hown, hts, hlk, hK, hap, hsx⟩ := id C
  unfold mX7_advance_b141 at hf
  refine lv_aload_n hx hb (dc tbX7_advance_1_k 30 rfl) rfl (lv_at hl 0 rfl) ?_
  refine lv_aload_n hx hb (dc tbX7_advance_1_k 31 rfl) rfl (lv_at hl 0 rfl) ?_
  refine gg7_12 hx hb hts hown hK hI hk0.1 q_t7_88 (dc tbX7_advance_1_k 32 rfl) ?_
  obtain ⟨r35, q34, hf⟩ := cap_s hf
  refine g_callVi hx hb hml hown hts hK hap hsx hI (tX7_byteAt l hk0 q34 H.size) cv_X7_byteAt q_t7_197 rfl rfl ⟨Nat.le_of_ble_eq_true rfl, Nat.le_of_ble_eq_true rfl⟩ hk0.1 (by simp) rfl rfl rfl hl.1 rfl (Nat.le_of_ble_eq_true rfl) (dc tbX7_advance_1_k 33 rfl) ⟨Nat.le_of_ble_eq_true rfl, Nat.le_of_ble_eq_true rfl⟩ (fun H locs hI => ?_)
  obtain ⟨r38, q37, hf⟩ := cap_s hf
  refine g_callSi hx hb hml hown hts hK hap hsx hI (tX7_isDigit l  q37 H.size) cs_X7_isDigit q_t7_204 rfl rfl ⟨Nat.le_of_ble_eq_true rfl, Nat.le_of_ble_eq_true rfl⟩ rfl hl.1 rfl (Nat.le_of_ble_eq_true rfl) (dc tbX7_advance_1_k 34 rfl) ⟨Nat.le_of_ble_eq_true rfl, Nat.le_of_ble_eq_true rfl⟩ (fun H locs hI => ?_)
  refine lv_if_eq (tgt := 211) hx hb (dc tbX7_advance_1_k 35 rfl) rfl (fun c40 => ?_) (fun c40 => ?_)
  · have hf := ite_t c40 hf
    refine lv_aload_n hx hb (dc tbX7_advance_2_k 26 rfl) rfl (lv_at hl 0 rfl) ?_
    refine lv_aload_n hx hb (dc tbX7_advance_2_k 27 rfl) rfl (lv_at hl 0 rfl) ?_
    refine gg7_12 hx hb hts hown hK hI hk0.1 q_t7_88 (dc tbX7_advance_2_k 28 rfl) ?_
    refine lv_aload_n hx hb (dc tbX7_advance_2_k 29 rfl) rfl (lv_at hl 0 rfl) ?_
    refine gg7_11 hx hb hts hown hK hI hk0.1 q_t7_87 (dc tbX7_advance_2_k 30 rfl) ?_
    refine lv_isub hx hb (dc tbX7_advance_2_k 31 rfl) ?_
    refine lv_iconst (v := 4) hx hb (dc tbX7_advance_2_k 32 rfl) ic_4 ?_
    refine lv_icmp_le (tgt := 229) hx hb (dc tbX7_advance_2_k 33 rfl) rfl (fun c41 => ?_) (fun c41 => ?_)
    · have hf := ite_t c41 hf
      refine lv_iconst (v := 3) hx hb (dc tbX7_advance_2_k 36 rfl) ic_3 ?_
      exact tX7_advance_b230 C hk0 (3 : Int32) M hf _ _ _ hI (lv_sub hl [] rfl)
    · have hf := ite_f c41 hf
      refine lv_iconst (v := 1) hx hb (dc tbX7_advance_2_k 34 rfl) ic_1 ?_
      refine lv_goto (tgt := 230) hx hb (dc tbX7_advance_2_k 35 rfl) rfl ?_
      exact tX7_advance_b230 C hk0 (1 : Int32) M hf _ _ _ hI (lv_sub hl [] rfl)
  · have hf := ite_f c40 hf
    refine lv_aload_n hx hb (dc tbX7_advance_1_k 36 rfl) rfl (lv_at hl 0 rfl) ?_
    refine lv_aload_n hx hb (dc tbX7_advance_1_k 37 rfl) rfl (lv_at hl 0 rfl) ?_
    refine gg7_12 hx hb hts hown hK hI hk0.1 q_t7_88 (dc tbX7_advance_1_k 38 rfl) ?_
    refine lv_aload_n hx hb (dc tbX7_advance_1_k 39 rfl) rfl (lv_at hl 0 rfl) ?_
    refine gg7_11 hx hb hts hown hK hI hk0.1 q_t7_87 (dc tbX7_advance_2_k 0 rfl) ?_
    refine lv_isub hx hb (dc tbX7_advance_2_k 1 rfl) ?_
    refine lv_iconst (v := 4) hx hb (dc tbX7_advance_2_k 2 rfl) ic_4 ?_
    refine lv_icmp_ge (tgt := 191) hx hb (dc tbX7_advance_2_k 3 rfl) rfl (fun c44 => ?_) (fun c44 => ?_)
    · have hf := ite_t c44 hf
      refine lv_aload_n hx hb (dc tbX7_advance_2_k 16 rfl) rfl (lv_at hl 0 rfl) ?_
      refine gg7_14 hx hb hts hown hK hI hk0.1 q_t7_90 (dc tbX7_advance_2_k 17 rfl) ?_
      exact tX7_advance_b195 C hk0 hih141 (rd M k0 14) M hf _ _ _ hI (lv_sub hl [0] rfl)
    · have hf := ite_f c44 hf
      refine lv_bipush (v := 10) hx hb (dc tbX7_advance_2_k 4 rfl) bp_10 ?_
      refine lv_aload_n hx hb (dc tbX7_advance_2_k 5 rfl) rfl (lv_at hl 0 rfl) ?_
      refine gg7_14 hx hb hts hown hK hI hk0.1 q_t7_90 (dc tbX7_advance_2_k 6 rfl) ?_
      refine lv_imul hx hb (dc tbX7_advance_2_k 7 rfl) ?_
      refine lv_aload_n hx hb (dc tbX7_advance_2_k 8 rfl) rfl (lv_at hl 0 rfl) ?_
      refine lv_aload_n hx hb (dc tbX7_advance_2_k 9 rfl) rfl (lv_at hl 0 rfl) ?_
      refine gg7_12 hx hb hts hown hK hI hk0.1 q_t7_88 (dc tbX7_advance_2_k 10 rfl) ?_
      obtain ⟨r50, q49, hf⟩ := cap_s hf
      refine g_callVi hx hb hml hown hts hK hap hsx hI (tX7_byteAt l hk0 q49 H.size) cv_X7_byteAt q_t7_197 rfl rfl ⟨Nat.le_of_ble_eq_true rfl, Nat.le_of_ble_eq_true rfl⟩ hk0.1 (by simp) rfl rfl rfl hl.1 rfl (Nat.le_of_ble_eq_true rfl) (dc tbX7_advance_2_k 11 rfl) ⟨Nat.le_of_ble_eq_true rfl, Nat.le_of_ble_eq_true rfl⟩ (fun H locs hI => ?_)
      refine lv_iadd hx hb (dc tbX7_advance_2_k 12 rfl) ?_
      refine lv_bipush (v := 48) hx hb (dc tbX7_advance_2_k 13 rfl) bp_48 ?_
      refine lv_isub hx hb (dc tbX7_advance_2_k 14 rfl) ?_
      refine lv_goto (tgt := 195) hx hb (dc tbX7_advance_2_k 15 rfl) rfl ?_
      exact tX7_advance_b195 C hk0 hih141 ((((10 : Int32) * (rd M k0 14)) + r50) - (48 : Int32)) M hf _ _ _ hI (lv_sub hl [0] rfl)
def mX7_advance_l141 (k0 : Nat) : Nat → Mem → Option (Mem × Int32)
  | 0 => fun  _ => none
  | n + 1 => mX7_advance_b141 k0 (mX7_advance_l141 k0 n)
theorem tX7_advance_l141 {p : Program} {l : Launch} {e : Env} {s : State} {m : MethodId} {args : Array Value} {below : List Frame} {meth : Method} {c : Code} {G : GT} {kd : Nat → Nat × Nat} {ad : Nat → Nat} (C : Cx p s m args meth c cX7_advance 2 (some .boolean) RX7 G kd ad) {k0 : Nat} (hk0 : kModel kd k0) {MO : Mem} {vo : Int32}   : ∀ (fuel : Nat)  (M : Mem), mX7_advance_l141 k0 fuel M = some (MO, vo) → At p l e (rmO 1 0 0) s m args below meth c 0 0 (MQ below (Qg G kd ad s.heap.size MO (some (.int vo))) args s 0 0 (AS kd ad s.heap.size)) G kd ad 2 141 [(0, .ref (ad k0))] [] M := by
  intro fuel
  induction fuel with
  | zero => intro M hf; cases hf
  | succ n IH => exact tX7_advance_b141 C hk0 IH
def mX7_advance_b123 (k0 : Nat) (y1 : Int32) (M : Mem) : Option (Mem × Int32) := bnd (wr M k0 13 y1) (fun M60 => some (M60, (1 : Int32)))
set_option maxHeartbeats 4000000 in
set_option maxRecDepth 100000 in
theorem tX7_advance_b123 {p : Program} {l : Launch} {e : Env} {s : State} {m : MethodId} {args : Array Value} {below : List Frame} {meth : Method} {c : Code} {G : GT} {kd : Nat → Nat × Nat} {ad : Nat → Nat} (C : Cx p s m args meth c cX7_advance 2 (some .boolean) RX7 G kd ad) {k0 : Nat} (hk0 : kModel kd k0) {MO : Mem} {vo : Int32}   : ∀ (y1 : Int32) (M : Mem), mX7_advance_b123 k0 y1 M = some (MO, vo) → At p l e (rmO 1 0 0) s m args below meth c 0 0 (MQ below (Qg G kd ad s.heap.size MO (some (.int vo))) args s 0 0 (AS kd ad s.heap.size)) G kd ad 2 123 [] [.int y1, .ref (ad k0)] M := by
  intro y1 M hf H locs ls hI hl
  obtain ⟨hx, hb, hml, hr, hown, hts, hlk, hK, hap, hsx⟩ := id C
  unfold mX7_advance_b123 at hf
  obtain ⟨M60, e61, hf⟩ := bnd_s hf
  refine gp7_13 hx hb hts hown hK hap hI hk0.1 q_t7_89 (dc tbX7_advance_1_k 22 rfl) e61 (fun H locs hI => ?_)
  refine lv_goto (tgt := 261) hx hb (dc tbX7_advance_1_k 23 rfl) rfl ?_
  refine lv_iconst (v := 1) hx hb (dc tbX7_advance_3_k 13 rfl) ic_1 ?_
  cases hf
  exact g_zret hx hb hr hlk hI rfl (dc tbX7_advance_3_k 14 rfl)
def mX7_advance_b76 (k0 : Nat) (ih76 : Mem → Option (Mem × Int32)) (M : Mem) : Option (Mem × Int32) := cap (mX7_byteAt k0 (rd M k0 12) M) (fun r53 => cap (mX7_isLetter r53 M) (fun r56 => ite2 (r56 = 0) (ite2 (((rd M k0 12) - (rd M k0 11)) ≤ (6 : Int32)) (mX7_advance_b123 k0 (2 : Int32) M) (mX7_advance_b123 k0 (1 : Int32) M)) (bnd (wr M k0 12 ((rd M k0 12) + (1 : Int32))) (fun M62 => ih76 M62))))
set_option maxHeartbeats 4000000 in
set_option maxRecDepth 100000 in
theorem tX7_advance_b76 {p : Program} {l : Launch} {e : Env} {s : State} {m : MethodId} {args : Array Value} {below : List Frame} {meth : Method} {c : Code} {G : GT} {kd : Nat → Nat × Nat} {ad : Nat → Nat} (C : Cx p s m args meth c cX7_advance 2 (some .boolean) RX7 G kd ad) {k0 : Nat} (hk0 : kModel kd k0) {MO : Mem} {vo : Int32} {ih76 : Mem → Option (Mem × Int32)} (hih76 : ∀  (M : Mem), ih76 M = some (MO, vo) → At p l e (rmO 1 0 0) s m args below meth c 0 0 (MQ below (Qg G kd ad s.heap.size MO (some (.int vo))) args s 0 0 (AS kd ad s.heap.size)) G kd ad 2 76 [(0, .ref (ad k0))] [] M) : ∀  (M : Mem), mX7_advance_b76 k0 ih76 M = some (MO, vo) → At p l e (rmO 1 0 0) s m args below meth c 0 0 (MQ below (Qg G kd ad s.heap.size MO (some (.int vo))) args s 0 0 (AS kd ad s.heap.size)) G kd ad 2 76 [(0, .ref (ad k0))] [] M := by
  intro M hf H locs ls hI hl
  obtain ⟨hx, hb, hml, hr, hown, hts, hlk, hK, hap, hsx⟩ := id C
  unfold mX7_advance_b76 at hf
  refine lv_aload_n hx hb (dc tbX7_advance_0_k 38 rfl) rfl (lv_at hl 0 rfl) ?_
  refine lv_aload_n hx hb (dc tbX7_advance_0_k 39 rfl) rfl (lv_at hl 0 rfl) ?_
  refine gg7_12 hx hb hts hown hK hI hk0.1 q_t7_88 (dc tbX7_advance_1_k 0 rfl) ?_
  obtain ⟨r53, q52, hf⟩ := cap_s hf
  refine g_callVi hx hb hml hown hts hK hap hsx hI (tX7_byteAt l hk0 q52 H.size) cv_X7_byteAt q_t7_197 rfl rfl ⟨Nat.le_of_ble_eq_true rfl, Nat.le_of_ble_eq_true rfl⟩ hk0.1 (by simp) rfl rfl rfl hl.1 rfl (Nat.le_of_ble_eq_true rfl) (dc tbX7_advance_1_k 1 rfl) ⟨Nat.le_of_ble_eq_true rfl, Nat.le_of_ble_eq_true rfl⟩ (fun H locs hI => ?_)
  obtain ⟨r56, q55, hf⟩ := cap_s hf
  refine g_callSi hx hb hml hown hts hK hap hsx hI (tX7_isLetter l  q55 H.size) cs_X7_isLetter q_t7_201 rfl rfl ⟨Nat.le_of_ble_eq_true rfl, Nat.le_of_ble_eq_true rfl⟩ rfl hl.1 rfl (Nat.le_of_ble_eq_true rfl) (dc tbX7_advance_1_k 2 rfl) ⟨Nat.le_of_ble_eq_true rfl, Nat.le_of_ble_eq_true rfl⟩ (fun H locs hI => ?_)
  refine lv_if_eq (tgt := 103) hx hb (dc tbX7_advance_1_k 3 rfl) rfl (fun c58 => ?_) (fun c58 => ?_)
  · have hf := ite_t c58 hf
    refine lv_aload_n hx hb (dc tbX7_advance_1_k 11 rfl) rfl (lv_at hl 0 rfl) ?_
    refine lv_aload_n hx hb (dc tbX7_advance_1_k 12 rfl) rfl (lv_at hl 0 rfl) ?_
    refine gg7_12 hx hb hts hown hK hI hk0.1 q_t7_88 (dc tbX7_advance_1_k 13 rfl) ?_
    refine lv_aload_n hx hb (dc tbX7_advance_1_k 14 rfl) rfl (lv_at hl 0 rfl) ?_
    refine gg7_11 hx hb hts hown hK hI hk0.1 q_t7_87 (dc tbX7_advance_1_k 15 rfl) ?_
    refine lv_isub hx hb (dc tbX7_advance_1_k 16 rfl) ?_
    refine lv_bipush (v := 6) hx hb (dc tbX7_advance_1_k 17 rfl) bp_6 ?_
    refine lv_icmp_le (tgt := 122) hx hb (dc tbX7_advance_1_k 18 rfl) rfl (fun c59 => ?_) (fun c59 => ?_)
    · have hf := ite_t c59 hf
      refine lv_iconst (v := 2) hx hb (dc tbX7_advance_1_k 21 rfl) ic_2 ?_
      exact tX7_advance_b123 C hk0 (2 : Int32) M hf _ _ _ hI (lv_sub hl [] rfl)
    · have hf := ite_f c59 hf
      refine lv_iconst (v := 1) hx hb (dc tbX7_advance_1_k 19 rfl) ic_1 ?_
      refine lv_goto (tgt := 123) hx hb (dc tbX7_advance_1_k 20 rfl) rfl ?_
      exact tX7_advance_b123 C hk0 (1 : Int32) M hf _ _ _ hI (lv_sub hl [] rfl)
  · have hf := ite_f c58 hf
    refine lv_aload_n hx hb (dc tbX7_advance_1_k 4 rfl) rfl (lv_at hl 0 rfl) ?_
    refine lv_dup hx hb (dc tbX7_advance_1_k 5 rfl) rfl ?_
    refine gg7_12 hx hb hts hown hK hI hk0.1 q_t7_88 (dc tbX7_advance_1_k 6 rfl) ?_
    refine lv_iconst (v := 1) hx hb (dc tbX7_advance_1_k 7 rfl) ic_1 ?_
    refine lv_iadd hx hb (dc tbX7_advance_1_k 8 rfl) ?_
    obtain ⟨M62, e63, hf⟩ := bnd_s hf
    refine gp7_12 hx hb hts hown hK hap hI hk0.1 q_t7_88 (dc tbX7_advance_1_k 9 rfl) e63 (fun H locs hI => ?_)
    refine lv_goto (tgt := 76) hx hb (dc tbX7_advance_1_k 10 rfl) rfl ?_
    exact hih76 M62 hf _ _ _ hI (lv_sub hl [0] rfl)
def mX7_advance_l76 (k0 : Nat) : Nat → Mem → Option (Mem × Int32)
  | 0 => fun  _ => none
  | n + 1 => mX7_advance_b76 k0 (mX7_advance_l76 k0 n)
theorem tX7_advance_l76 {p : Program} {l : Launch} {e : Env} {s : State} {m : MethodId} {args : Array Value} {below : List Frame} {meth : Method} {c : Code} {G : GT} {kd : Nat → Nat × Nat} {ad : Nat → Nat} (C : Cx p s m args meth c cX7_advance 2 (some .boolean) RX7 G kd ad) {k0 : Nat} (hk0 : kModel kd k0) {MO : Mem} {vo : Int32}   : ∀ (fuel : Nat)  (M : Mem), mX7_advance_l76 k0 fuel M = some (MO, vo) → At p l e (rmO 1 0 0) s m args below meth c 0 0 (MQ below (Qg G kd ad s.heap.size MO (some (.int vo))) args s 0 0 (AS kd ad s.heap.size)) G kd ad 2 76 [(0, .ref (ad k0))] [] M := by
  intro fuel
  induction fuel with
  | zero => intro M hf; cases hf
  | succ n IH => exact tX7_advance_b76 C hk0 IH
def mX7_advance_b0 (k0 : Nat) (ih0 : Mem → Option (Mem × Int32)) (M : Mem) : Option (Mem × Int32) := cap (mX7_byteAt k0 (rd M k0 12) M) (fun r2 => ite2 (r2 = (32 : Int32)) (mX7_advance_b26 k0 ih0 M) (cap (mX7_byteAt k0 (rd M k0 12) M) (fun r8 => ite2 (r8 = (10 : Int32)) (mX7_advance_b26 k0 ih0 M) (bnd (wr M k0 11 (rd M k0 12)) (fun M11 => cap (mX7_byteAt k0 (rd M11 k0 12) M11) (fun r14 => ite2 (r14 = (-1 : Int32)) (bnd (wr M11 k0 13 (0 : Int32)) (fun M64 => some (M64, (1 : Int32)))) (cap (mX7_isLetter r14 M11) (fun r18 => ite2 (r18 = 0) (cap (mX7_isDigit r14 M11) (fun r22 => ite2 (r22 = 0) (bnd (wr M11 k0 12 ((rd M11 k0 12) + (1 : Int32))) (fun M25 => ite2 (r14 = (59 : Int32)) (bnd (wr M25 k0 13 (4 : Int32)) (fun M30 => some (M30, (1 : Int32)))) (bnd (wr M25 k0 13 (1 : Int32)) (fun M28 => some (M28, (1 : Int32)))))) (bnd (wr M11 k0 14 (0 : Int32)) (fun M32 => mX7_advance_l141 k0 5000 M32)))) (mX7_advance_l76 k0 5000 M11)))))))))
set_option maxHeartbeats 4000000 in
set_option maxRecDepth 100000 in
theorem tX7_advance_b0 {p : Program} {l : Launch} {e : Env} {s : State} {m : MethodId} {args : Array Value} {below : List Frame} {meth : Method} {c : Code} {G : GT} {kd : Nat → Nat × Nat} {ad : Nat → Nat} (C : Cx p s m args meth c cX7_advance 2 (some .boolean) RX7 G kd ad) {k0 : Nat} (hk0 : kModel kd k0) {MO : Mem} {vo : Int32} {ih0 : Mem → Option (Mem × Int32)} (hih0 : ∀  (M : Mem), ih0 M = some (MO, vo) → At p l e (rmO 1 0 0) s m args below meth c 0 0 (MQ below (Qg G kd ad s.heap.size MO (some (.int vo))) args s 0 0 (AS kd ad s.heap.size)) G kd ad 2 0 [(0, .ref (ad k0))] [] M) : ∀  (M : Mem), mX7_advance_b0 k0 ih0 M = some (MO, vo) → At p l e (rmO 1 0 0) s m args below meth c 0 0 (MQ below (Qg G kd ad s.heap.size MO (some (.int vo))) args s 0 0 (AS kd ad s.heap.size)) G kd ad 2 0 [(0, .ref (ad k0))] [] M := by
  intro M hf H locs ls hI hl
  obtain ⟨hx, hb, hml, hr, hown, hts, hlk, hK, hap, hsx⟩ := id C
  unfold mX7_advance_b0 at hf
  refine lv_aload_n hx hb (dc tbX7_advance_0_k 0 rfl) rfl (lv_at hl 0 rfl) ?_
  refine lv_aload_n hx hb (dc tbX7_advance_0_k 1 rfl) rfl (lv_at hl 0 rfl) ?_
  refine gg7_12 hx hb hts hown hK hI hk0.1 q_t7_88 (dc tbX7_advance_0_k 2 rfl) ?_
  obtain ⟨r2, q1, hf⟩ := cap_s hf
  refine g_callVi hx hb hml hown hts hK hap hsx hI (tX7_byteAt l hk0 q1 H.size) cv_X7_byteAt q_t7_197 rfl rfl ⟨Nat.le_of_ble_eq_true rfl, Nat.le_of_ble_eq_true rfl⟩ hk0.1 (by simp) rfl rfl rfl hl.1 rfl (Nat.le_of_ble_eq_true rfl) (dc tbX7_advance_0_k 3 rfl) ⟨Nat.le_of_ble_eq_true rfl, Nat.le_of_ble_eq_true rfl⟩ (fun H locs hI => ?_)
  refine lv_bipush (v := 32) hx hb (dc tbX7_advance_0_k 4 rfl) bp_32 ?_
  refine lv_icmp_eq (tgt := 26) hx hb (dc tbX7_advance_0_k 5 rfl) rfl (fun c4 => ?_) (fun c4 => ?_)
  · have hf := ite_t c4 hf
    exact tX7_advance_b26 C hk0 hih0 M hf _ _ _ hI (lv_sub hl [0] rfl)
  · have hf := ite_f c4 hf
    refine lv_aload_n hx hb (dc tbX7_advance_0_k 6 rfl) rfl (lv_at hl 0 rfl) ?_
    refine lv_aload_n hx hb (dc tbX7_advance_0_k 7 rfl) rfl (lv_at hl 0 rfl) ?_
    refine gg7_12 hx hb hts hown hK hI hk0.1 q_t7_88 (dc tbX7_advance_0_k 8 rfl) ?_
    obtain ⟨r8, q7, hf⟩ := cap_s hf
    refine g_callVi hx hb hml hown hts hK hap hsx hI (tX7_byteAt l hk0 q7 H.size) cv_X7_byteAt q_t7_197 rfl rfl ⟨Nat.le_of_ble_eq_true rfl, Nat.le_of_ble_eq_true rfl⟩ hk0.1 (by simp) rfl rfl rfl hl.1 rfl (Nat.le_of_ble_eq_true rfl) (dc tbX7_advance_0_k 9 rfl) ⟨Nat.le_of_ble_eq_true rfl, Nat.le_of_ble_eq_true rfl⟩ (fun H locs hI => ?_)
    refine lv_bipush (v := 10) hx hb (dc tbX7_advance_0_k 10 rfl) bp_10 ?_
    refine lv_icmp_ne (tgt := 39) hx hb (dc tbX7_advance_0_k 11 rfl) rfl (fun c10 => ?_) (fun c10 => ?_)
    · have hf := ite_f c10 hf
      refine lv_aload_n hx hb (dc tbX7_advance_0_k 19 rfl) rfl (lv_at hl 0 rfl) ?_
      refine lv_aload_n hx hb (dc tbX7_advance_0_k 20 rfl) rfl (lv_at hl 0 rfl) ?_
      refine gg7_12 hx hb hts hown hK hI hk0.1 q_t7_88 (dc tbX7_advance_0_k 21 rfl) ?_
      obtain ⟨M11, e12, hf⟩ := bnd_s hf
      refine gp7_11 hx hb hts hown hK hap hI hk0.1 q_t7_87 (dc tbX7_advance_0_k 22 rfl) e12 (fun H locs hI => ?_)
      refine lv_aload_n hx hb (dc tbX7_advance_0_k 23 rfl) rfl (lv_at hl 0 rfl) ?_
      refine lv_aload_n hx hb (dc tbX7_advance_0_k 24 rfl) rfl (lv_at hl 0 rfl) ?_
      refine gg7_12 hx hb hts hown hK hI hk0.1 q_t7_88 (dc tbX7_advance_0_k 25 rfl) ?_
      obtain ⟨r14, q13, hf⟩ := cap_s hf
      refine g_callVi hx hb hml hown hts hK hap hsx hI (tX7_byteAt l hk0 q13 H.size) cv_X7_byteAt q_t7_197 rfl rfl ⟨Nat.le_of_ble_eq_true rfl, Nat.le_of_ble_eq_true rfl⟩ hk0.1 (by simp) rfl rfl rfl hl.1 rfl (Nat.le_of_ble_eq_true rfl) (dc tbX7_advance_0_k 26 rfl) ⟨Nat.le_of_ble_eq_true rfl, Nat.le_of_ble_eq_true rfl⟩ (fun H locs hI => ?_)
      refine lv_istore_n (lv' := [(1, .int r14), (0, .ref (ad k0))]) hx hb (dc tbX7_advance_0_k 27 rfl) rfl hl (by decide) rfl (fun ls hl => ?_)
      refine lv_iload_n hx hb (dc tbX7_advance_0_k 28 rfl) rfl (lv_at hl 0 rfl) ?_
      refine lv_iconst (v := -1) hx hb (dc tbX7_advance_0_k 29 rfl) ic_m1 ?_
      refine lv_icmp_ne (tgt := 69) hx hb (dc tbX7_advance_0_k 30 rfl) rfl (fun c16 => ?_) (fun c16 => ?_)
      · have hf := ite_f c16 hf
        refine lv_iload_n hx hb (dc tbX7_advance_0_k 35 rfl) rfl (lv_at hl 0 rfl) ?_
        obtain ⟨r18, q17, hf⟩ := cap_s hf
        refine g_callSi hx hb hml hown hts hK hap hsx hI (tX7_isLetter l  q17 H.size) cs_X7_isLetter q_t7_201 rfl rfl ⟨Nat.le_of_ble_eq_true rfl, Nat.le_of_ble_eq_true rfl⟩ rfl hl.1 rfl (Nat.le_of_ble_eq_true rfl) (dc tbX7_advance_0_k 36 rfl) ⟨Nat.le_of_ble_eq_true rfl, Nat.le_of_ble_eq_true rfl⟩ (fun H locs hI => ?_)
        refine lv_if_eq (tgt := 129) hx hb (dc tbX7_advance_0_k 37 rfl) rfl (fun c20 => ?_) (fun c20 => ?_)
        · have hf := ite_t c20 hf
          refine lv_iload_n hx hb (dc tbX7_advance_1_k 24 rfl) rfl (lv_at hl 0 rfl) ?_
          obtain ⟨r22, q21, hf⟩ := cap_s hf
          refine g_callSi hx hb hml hown hts hK hap hsx hI (tX7_isDigit l  q21 H.size) cs_X7_isDigit q_t7_204 rfl rfl ⟨Nat.le_of_ble_eq_true rfl, Nat.le_of_ble_eq_true rfl⟩ rfl hl.1 rfl (Nat.le_of_ble_eq_true rfl) (dc tbX7_advance_1_k 25 rfl) ⟨Nat.le_of_ble_eq_true rfl, Nat.le_of_ble_eq_true rfl⟩ (fun H locs hI => ?_)
          refine lv_if_eq (tgt := 236) hx hb (dc tbX7_advance_1_k 26 rfl) rfl (fun c24 => ?_) (fun c24 => ?_)
          · have hf := ite_t c24 hf
            refine lv_aload_n hx hb (dc tbX7_advance_2_k 39 rfl) rfl (lv_at hl 1 rfl) ?_
            refine lv_dup hx hb (dc tbX7_advance_3_k 0 rfl) rfl ?_
            refine gg7_12 hx hb hts hown hK hI hk0.1 q_t7_88 (dc tbX7_advance_3_k 1 rfl) ?_
            refine lv_iconst (v := 1) hx hb (dc tbX7_advance_3_k 2 rfl) ic_1 ?_
            refine lv_iadd hx hb (dc tbX7_advance_3_k 3 rfl) ?_
            obtain ⟨M25, e26, hf⟩ := bnd_s hf
            refine gp7_12 hx hb hts hown hK hap hI hk0.1 q_t7_88 (dc tbX7_advance_3_k 4 rfl) e26 (fun H locs hI => ?_)
            refine lv_aload_n hx hb (dc tbX7_advance_3_k 5 rfl) rfl (lv_at hl 1 rfl) ?_
            refine lv_iload_n hx hb (dc tbX7_advance_3_k 6 rfl) rfl (lv_at hl 0 rfl) ?_
            refine lv_bipush (v := 59) hx hb (dc tbX7_advance_3_k 7 rfl) bp_59 ?_
            refine lv_icmp_ne (tgt := 257) hx hb (dc tbX7_advance_3_k 8 rfl) rfl (fun c27 => ?_) (fun c27 => ?_)
            · have hf := ite_f c27 hf
              refine lv_iconst (v := 1) hx hb (dc tbX7_advance_3_k 11 rfl) ic_1 ?_
              obtain ⟨M28, e29, hf⟩ := bnd_s hf
              refine gp7_13 hx hb hts hown hK hap hI hk0.1 q_t7_89 (dc tbX7_advance_3_k 12 rfl) e29 (fun H locs hI => ?_)
              refine lv_iconst (v := 1) hx hb (dc tbX7_advance_3_k 13 rfl) ic_1 ?_
              cases hf
              exact g_zret hx hb hr hlk hI rfl (dc tbX7_advance_3_k 14 rfl)
            · have hf := ite_t c27 hf
              refine lv_iconst (v := 4) hx hb (dc tbX7_advance_3_k 9 rfl) ic_4 ?_
              refine lv_goto (tgt := 258) hx hb (dc tbX7_advance_3_k 10 rfl) rfl ?_
              obtain ⟨M30, e31, hf⟩ := bnd_s hf
              refine gp7_13 hx hb hts hown hK hap hI hk0.1 q_t7_89 (dc tbX7_advance_3_k 12 rfl) e31 (fun H locs hI => ?_)
              refine lv_iconst (v := 1) hx hb (dc tbX7_advance_3_k 13 rfl) ic_1 ?_
              cases hf
              exact g_zret hx hb hr hlk hI rfl (dc tbX7_advance_3_k 14 rfl)
          · have hf := ite_f c24 hf
            refine lv_aload_n hx hb (dc tbX7_advance_1_k 27 rfl) rfl (lv_at hl 1 rfl) ?_
            refine lv_iconst (v := 0) hx hb (dc tbX7_advance_1_k 28 rfl) ic_0 ?_
            obtain ⟨M32, e33, hf⟩ := bnd_s hf
            refine gp7_14 hx hb hts hown hK hap hI hk0.1 q_t7_90 (dc tbX7_advance_1_k 29 rfl) e33 (fun H locs hI => ?_)
            exact tX7_advance_l141 C hk0 5000 M32 hf _ _ _ hI (lv_sub hl [1] rfl)
        · have hf := ite_f c20 hf
          exact tX7_advance_l76 C hk0 5000 M11 hf _ _ _ hI (lv_sub hl [1] rfl)
      · have hf := ite_t c16 hf
        refine lv_aload_n hx hb (dc tbX7_advance_0_k 31 rfl) rfl (lv_at hl 1 rfl) ?_
        refine lv_iconst (v := 0) hx hb (dc tbX7_advance_0_k 32 rfl) ic_0 ?_
        obtain ⟨M64, e65, hf⟩ := bnd_s hf
        refine gp7_13 hx hb hts hown hK hap hI hk0.1 q_t7_89 (dc tbX7_advance_0_k 33 rfl) e65 (fun H locs hI => ?_)
        refine lv_goto (tgt := 261) hx hb (dc tbX7_advance_0_k 34 rfl) rfl ?_
        refine lv_iconst (v := 1) hx hb (dc tbX7_advance_3_k 13 rfl) ic_1 ?_
        cases hf
        exact g_zret hx hb hr hlk hI rfl (dc tbX7_advance_3_k 14 rfl)
    · have hf := ite_t c10 hf
      exact tX7_advance_b26 C hk0 hih0 M hf _ _ _ hI (lv_sub hl [0] rfl)
def mX7_advance_l0 (k0 : Nat) : Nat → Mem → Option (Mem × Int32)
  | 0 => fun  _ => none
  | n + 1 => mX7_advance_b0 k0 (mX7_advance_l0 k0 n)
theorem tX7_advance_l0 {p : Program} {l : Launch} {e : Env} {s : State} {m : MethodId} {args : Array Value} {below : List Frame} {meth : Method} {c : Code} {G : GT} {kd : Nat → Nat × Nat} {ad : Nat → Nat} (C : Cx p s m args meth c cX7_advance 2 (some .boolean) RX7 G kd ad) {k0 : Nat} (hk0 : kModel kd k0) {MO : Mem} {vo : Int32}   : ∀ (fuel : Nat)  (M : Mem), mX7_advance_l0 k0 fuel M = some (MO, vo) → At p l e (rmO 1 0 0) s m args below meth c 0 0 (MQ below (Qg G kd ad s.heap.size MO (some (.int vo))) args s 0 0 (AS kd ad s.heap.size)) G kd ad 2 0 [(0, .ref (ad k0))] [] M := by
  intro fuel
  induction fuel with
  | zero => intro M hf; cases hf
  | succ n IH => exact tX7_advance_b0 C hk0 IH
def mX7_advance (k0 : Nat) (M : Mem) : Option (Mem × Int32) := mX7_advance_l0 k0 5000 M
set_option maxHeartbeats 4000000 in
set_option maxRecDepth 100000 in
theorem tX7_advance (l : Launch) {G : GT} {kd : Nat → Nat × Nat} {ad : Nat → Nat} {k0 : Nat} (hk0 : kModel kd k0) {M : Mem} {MO : Mem} {vo : Int32} (hf : mX7_advance k0 M = some (MO, vo)) (n : Nat) : Met l yX7_advance (Cond.code yX7_advance cX7_advance 2 (some .boolean) :: WA) (rmO 1 0 0) (Pg G kd ad n [.ref (ad k0)] M) (Qg G kd ad n MO (some (.int vo))) 0 0 (AS kd ad n) := by
  refine g_body (own := RX7) (by decide) rfl ?_ (Nat.le_of_ble_eq_true rfl)
  intro p e s m args below meth c C _ H locs ls hI hl
  obtain ⟨hx, hb, hml, hr, hown, hts, hlk, hK, hap, hsx⟩ := id C
  have hl : lv_has ls 2 [(0, .ref (ad k0))] := hl
  unfold mX7_advance at hf
  exact tX7_advance_l0 C hk0 5000 M hf _ _ _ hI (lv_sub hl [0] rfl)
theorem cv_X7_advance : cvF RX7 yX7_advance cX7_advance 2 (some .boolean) 0 := ⟨q_t7_195, q_s3_6, q_t1_11, q_t7_196, by decide +kernel⟩
def mX7_isWord_b28 (k0 : Nat) (k1 : Nat) (M : Mem) (ih28 : Int32 → Option Int32) (x2 : Int32) : Option Int32 := cap (mJ0_length_8abf5 k1 M) (fun r7 => ite2 (r7 ≤ x2) (some (1 : Int32)) (chk (okb ((rd M k0 11) + x2) 600) (cap (mJ0_charAt_5068e k1 x2 M) (fun r12 => ite2 ((rd M (k0 + 5) (((rd M k0 11) + x2)).toNatClampNeg) = r12) (bnd (x2 + (1 : Int32)) (fun x2_57 => ih28 x2_57)) (some (0 : Int32))))))
set_option maxHeartbeats 4000000 in
set_option maxRecDepth 100000 in
theorem tX7_isWord_b28 {p : Program} {l : Launch} {e : Env} {s : State} {m : MethodId} {args : Array Value} {below : List Frame} {meth : Method} {c : Code} {G : GT} {kd : Nat → Nat × Nat} {ad : Nat → Nat} (C : Cx p s m args meth c cX7_isWord 3 (some .boolean) RX7 G kd ad) {k0 : Nat} {k1 : Nat} (hk0 : kModel kd k0) (hk1 : k1 < 12) {M : Mem} {vo : Int32} {ih28 : Int32 → Option Int32} (hih28 : ∀ (x2 : Int32), ih28 x2 = some vo → At p l e (rmO 4 0 0) s m args below meth c 0 0 (MQ below (Qg G kd ad s.heap.size M (some (.int vo))) args s 0 0 (AS kd ad s.heap.size)) G kd ad 3 28 [(0, .ref (ad k0)), (1, .ref (G.2.2 (100 + k1))), (2, .int x2)] [] M) : ∀ (x2 : Int32), mX7_isWord_b28 k0 k1 M ih28 x2 = some vo → At p l e (rmO 4 0 0) s m args below meth c 0 0 (MQ below (Qg G kd ad s.heap.size M (some (.int vo))) args s 0 0 (AS kd ad s.heap.size)) G kd ad 3 28 [(0, .ref (ad k0)), (1, .ref (G.2.2 (100 + k1))), (2, .int x2)] [] M := by
  intro x2 hf H locs ls hI hl
  obtain ⟨hx, hb, hml, hr, hown, hts, hlk, hK, hap, hsx⟩ := id C
  unfold mX7_isWord_b28 at hf
  refine lv_iload_n hx hb (dc tbX7_isWord_k 16 rfl) rfl (lv_at hl 2 rfl) ?_
  refine lv_aload_n hx hb (dc tbX7_isWord_k 17 rfl) rfl (lv_at hl 1 rfl) ?_
  obtain ⟨r7, q6, hf⟩ := cap_s hf
  refine g_callTi hx hb hml hown hts hK hap hsx hI (tJ0_length_8abf5 l hk1 q6 H.size) cv_J0_length_8abf5 q_t7_216 rfl rfl ⟨Nat.le_of_ble_eq_true rfl, Nat.le_of_ble_eq_true rfl⟩ hk1 rfl hl.1 rfl (Nat.le_of_ble_eq_true rfl) (dc tbX7_isWord_k 18 rfl) ⟨Nat.le_of_ble_eq_true rfl, Nat.le_of_ble_eq_true rfl⟩ (fun H locs hI => ?_)
  refine lv_icmp_ge (tgt := 63) hx hb (dc tbX7_isWord_k 19 rfl) rfl (fun c9 => ?_) (fun c9 => ?_)
  · have hf := ite_t c9 hf
    refine lv_iconst (v := 1) hx hb (dc tbX7_isWord_k 35 rfl) ic_1 ?_
    cases hf
    exact g_zret hx hb hr hlk hI rfl (dc tbX7_isWord_k 36 rfl)
  · have hf := ite_f c9 hf
    refine lv_aload_n hx hb (dc tbX7_isWord_k 20 rfl) rfl (lv_at hl 0 rfl) ?_
    refine gg7_6 hx hb hts hown hK hI hk0.1 q_t7_82 (dc tbX7_isWord_k 21 rfl) ?_
    refine lv_aload_n hx hb (dc tbX7_isWord_k 22 rfl) rfl (lv_at hl 0 rfl) ?_
    refine gg7_11 hx hb hts hown hK hI hk0.1 q_t7_87 (dc tbX7_isWord_k 23 rfl) ?_
    refine lv_iload_n hx hb (dc tbX7_isWord_k 24 rfl) rfl (lv_at hl 2 rfl) ?_
    refine lv_iadd hx hb (dc tbX7_isWord_k 25 rfl) ?_
    obtain ⟨h10, hf⟩ := chk_s hf
    refine g_iald hx hb hK hI hk0.2.2.2.2.2.1 (okb_in h10) (dc tbX7_isWord_k 26 rfl) ?_
    refine lv_aload_n hx hb (dc tbX7_isWord_k 27 rfl) rfl (lv_at hl 1 rfl) ?_
    refine lv_iload_n hx hb (dc tbX7_isWord_k 28 rfl) rfl (lv_at hl 2 rfl) ?_
    obtain ⟨r12, q11, hf⟩ := cap_s hf
    refine g_callTi hx hb hml hown hts hK hap hsx hI (tJ0_charAt_5068e l hk1 q11 H.size) cv_J0_charAt_5068e q_t7_217 rfl rfl ⟨Nat.le_of_ble_eq_true rfl, Nat.le_of_ble_eq_true rfl⟩ hk1 rfl hl.1 rfl (Nat.le_of_ble_eq_true rfl) (dc tbX7_isWord_k 29 rfl) ⟨Nat.le_of_ble_eq_true rfl, Nat.le_of_ble_eq_true rfl⟩ (fun H locs hI => ?_)
    refine lv_icmp_eq (tgt := 57) hx hb (dc tbX7_isWord_k 30 rfl) rfl (fun c14 => ?_) (fun c14 => ?_)
    · have hf := ite_t c14 hf
      obtain ⟨x2_57, e15, hf⟩ := bnd_s hf
      refine lv_iinc (v := x2_57) (lv' := [(2, .int x2_57), (0, .ref (ad k0)), (1, .ref (G.2.2 (100 + k1)))]) hx hb (dc tbX7_isWord_k 33 rfl) hl (k := 2) rfl (ii_e e15 ic_1) (by decide) rfl (fun ls hl => ?_)
      refine lv_goto (tgt := 28) hx hb (dc tbX7_isWord_k 34 rfl) rfl ?_
      exact hih28 x2_57 hf _ _ _ hI (lv_sub hl [1, 2, 0] rfl)
    · have hf := ite_f c14 hf
      refine lv_iconst (v := 0) hx hb (dc tbX7_isWord_k 31 rfl) ic_0 ?_
      cases hf
      exact g_zret hx hb hr hlk hI rfl (dc tbX7_isWord_k 32 rfl)
def mX7_isWord_l28 (k0 : Nat) (k1 : Nat) (M : Mem) : Nat → Int32 → Option Int32
  | 0 => fun _ => none
  | n + 1 => mX7_isWord_b28 k0 k1 M (mX7_isWord_l28 k0 k1 M n)
theorem tX7_isWord_l28 {p : Program} {l : Launch} {e : Env} {s : State} {m : MethodId} {args : Array Value} {below : List Frame} {meth : Method} {c : Code} {G : GT} {kd : Nat → Nat × Nat} {ad : Nat → Nat} (C : Cx p s m args meth c cX7_isWord 3 (some .boolean) RX7 G kd ad) {k0 : Nat} {k1 : Nat} (hk0 : kModel kd k0) (hk1 : k1 < 12) {M : Mem} {vo : Int32}   : ∀ (fuel : Nat) (x2 : Int32), mX7_isWord_l28 k0 k1 M fuel x2 = some vo → At p l e (rmO 4 0 0) s m args below meth c 0 0 (MQ below (Qg G kd ad s.heap.size M (some (.int vo))) args s 0 0 (AS kd ad s.heap.size)) G kd ad 3 28 [(0, .ref (ad k0)), (1, .ref (G.2.2 (100 + k1))), (2, .int x2)] [] M := by
  intro fuel
  induction fuel with
  | zero => intro x2 hf; cases hf
  | succ n IH => exact tX7_isWord_b28 C hk0 hk1 IH
def mX7_isWord (k0 : Nat) (k1 : Nat) (M : Mem) : Option Int32 := ite2 ((rd M k0 13) = (2 : Int32)) (cap (mJ0_length_8abf5 k1 M) (fun r3 => ite2 (((rd M k0 12) - (rd M k0 11)) = r3) (mX7_isWord_l28 k0 k1 M 5000 (0 : Int32)) (some (0 : Int32)))) (some (0 : Int32))
set_option maxHeartbeats 4000000 in
set_option maxRecDepth 100000 in
theorem tX7_isWord (l : Launch) {G : GT} {kd : Nat → Nat × Nat} {ad : Nat → Nat} {k0 : Nat} {k1 : Nat} (hk0 : kModel kd k0) (hk1 : k1 < 12) {M : Mem} {vo : Int32} (hf : mX7_isWord k0 k1 M = some vo) (n : Nat) : Met l yX7_isWord (Cond.code yX7_isWord cX7_isWord 3 (some .boolean) :: WA) (rmO 4 0 0) (Pg G kd ad n [.ref (ad k0), .ref (G.2.2 (100 + k1))] M) (Qg G kd ad n M (some (.int vo))) 0 0 (AS kd ad n) := by
  refine g_body (own := RX7) (by decide) rfl ?_ (Nat.le_of_ble_eq_true rfl)
  intro p e s m args below meth c C _ H locs ls hI hl
  obtain ⟨hx, hb, hml, hr, hown, hts, hlk, hK, hap, hsx⟩ := id C
  have hl : lv_has ls 3 [(0, .ref (ad k0)), (1, .ref (G.2.2 (100 + k1)))] := hl
  unfold mX7_isWord at hf
  refine lv_aload_n hx hb (dc tbX7_isWord_k 0 rfl) rfl (lv_at hl 0 rfl) ?_
  refine gg7_13 hx hb hts hown hK hI hk0.1 q_t7_89 (dc tbX7_isWord_k 1 rfl) ?_
  refine lv_iconst (v := 2) hx hb (dc tbX7_isWord_k 2 rfl) ic_2 ?_
  refine lv_icmp_ne (tgt := 24) hx hb (dc tbX7_isWord_k 3 rfl) rfl (fun c1 => ?_) (fun c1 => ?_)
  · have hf := ite_f c1 hf
    refine lv_iconst (v := 0) hx hb (dc tbX7_isWord_k 12 rfl) ic_0 ?_
    cases hf
    exact g_zret hx hb hr hlk hI rfl (dc tbX7_isWord_k 13 rfl)
  · have hf := ite_t c1 hf
    refine lv_aload_n hx hb (dc tbX7_isWord_k 4 rfl) rfl (lv_at hl 0 rfl) ?_
    refine gg7_12 hx hb hts hown hK hI hk0.1 q_t7_88 (dc tbX7_isWord_k 5 rfl) ?_
    refine lv_aload_n hx hb (dc tbX7_isWord_k 6 rfl) rfl (lv_at hl 0 rfl) ?_
    refine gg7_11 hx hb hts hown hK hI hk0.1 q_t7_87 (dc tbX7_isWord_k 7 rfl) ?_
    refine lv_isub hx hb (dc tbX7_isWord_k 8 rfl) ?_
    refine lv_aload_n hx hb (dc tbX7_isWord_k 9 rfl) rfl (lv_at hl 1 rfl) ?_
    obtain ⟨r3, q2, hf⟩ := cap_s hf
    refine g_callTi hx hb hml hown hts hK hap hsx hI (tJ0_length_8abf5 l hk1 q2 H.size) cv_J0_length_8abf5 q_t7_216 rfl rfl ⟨Nat.le_of_ble_eq_true rfl, Nat.le_of_ble_eq_true rfl⟩ hk1 rfl hl.1 rfl (Nat.le_of_ble_eq_true rfl) (dc tbX7_isWord_k 10 rfl) ⟨Nat.le_of_ble_eq_true rfl, Nat.le_of_ble_eq_true rfl⟩ (fun H locs hI => ?_)
    refine lv_icmp_eq (tgt := 26) hx hb (dc tbX7_isWord_k 11 rfl) rfl (fun c5 => ?_) (fun c5 => ?_)
    · have hf := ite_t c5 hf
      refine lv_iconst (v := 0) hx hb (dc tbX7_isWord_k 14 rfl) ic_0 ?_
      refine lv_istore_n (lv' := [(2, .int (0 : Int32)), (0, .ref (ad k0)), (1, .ref (G.2.2 (100 + k1)))]) hx hb (dc tbX7_isWord_k 15 rfl) rfl hl (by decide) rfl (fun ls hl => ?_)
      exact tX7_isWord_l28 C hk0 hk1 5000 (0 : Int32) hf _ _ _ hI (lv_sub hl [1, 2, 0] rfl)
    · have hf := ite_f c5 hf
      refine lv_iconst (v := 0) hx hb (dc tbX7_isWord_k 12 rfl) ic_0 ?_
      cases hf
      exact g_zret hx hb hr hlk hI rfl (dc tbX7_isWord_k 13 rfl)
theorem cv_X7_isWord : cvF RX7 yX7_isWord cX7_isWord 3 (some .boolean) 1 := ⟨q_t7_214, q_s3_9, q_t1_11, q_t7_215, by decide +kernel⟩
def mX7_fail_b14 (k0 : Nat) (y1 : Int32) (M : Mem) : Option (Mem × Int32) := bnd (wr M k0 15 y1) (fun M2 => bnd (wr M2 k0 16 (rd M2 k0 11)) (fun M4 => some (M4, (0 : Int32))))
set_option maxHeartbeats 4000000 in
set_option maxRecDepth 100000 in
theorem tX7_fail_b14 {p : Program} {l : Launch} {e : Env} {s : State} {m : MethodId} {args : Array Value} {below : List Frame} {meth : Method} {c : Code} {G : GT} {kd : Nat → Nat × Nat} {ad : Nat → Nat} (C : Cx p s m args meth c cX7_fail 2 (some .boolean) RX7 G kd ad) {k0 : Nat} (hk0 : kModel kd k0) {MO : Mem} {vo : Int32}   : ∀ (y1 : Int32) (M : Mem), mX7_fail_b14 k0 y1 M = some (MO, vo) → At p l e (rmO 0 0 0) s m args below meth c 0 0 (MQ below (Qg G kd ad s.heap.size MO (some (.int vo))) args s 0 0 (AS kd ad s.heap.size)) G kd ad 2 14 [(0, .ref (ad k0))] [.int y1, .ref (ad k0)] M := by
  intro y1 M hf H locs ls hI hl
  obtain ⟨hx, hb, hml, hr, hown, hts, hlk, hK, hap, hsx⟩ := id C
  unfold mX7_fail_b14 at hf
  obtain ⟨M2, e3, hf⟩ := bnd_s hf
  refine gp7_15 hx hb hts hown hK hap hI hk0.1 q_t7_91 (dc tbX7_fail_k 8 rfl) e3 (fun H locs hI => ?_)
  refine lv_aload_n hx hb (dc tbX7_fail_k 9 rfl) rfl (lv_at hl 0 rfl) ?_
  refine lv_aload_n hx hb (dc tbX7_fail_k 10 rfl) rfl (lv_at hl 0 rfl) ?_
  refine gg7_11 hx hb hts hown hK hI hk0.1 q_t7_87 (dc tbX7_fail_k 11 rfl) ?_
  obtain ⟨M4, e5, hf⟩ := bnd_s hf
  refine gp7_16 hx hb hts hown hK hap hI hk0.1 q_t7_92 (dc tbX7_fail_k 12 rfl) e5 (fun H locs hI => ?_)
  refine lv_iconst (v := 0) hx hb (dc tbX7_fail_k 13 rfl) ic_0 ?_
  cases hf
  exact g_zret hx hb hr hlk hI rfl (dc tbX7_fail_k 14 rfl)
def mX7_fail (k0 : Nat) (x1 : Int32) (M : Mem) : Option (Mem × Int32) := ite2 ((rd M k0 13) = (1 : Int32)) (mX7_fail_b14 k0 (1 : Int32) M) (mX7_fail_b14 k0 x1 M)
set_option maxHeartbeats 4000000 in
set_option maxRecDepth 100000 in
theorem tX7_fail (l : Launch) {G : GT} {kd : Nat → Nat × Nat} {ad : Nat → Nat} {k0 : Nat} (hk0 : kModel kd k0) {x1 : Int32} {M : Mem} {MO : Mem} {vo : Int32} (hf : mX7_fail k0 x1 M = some (MO, vo)) (n : Nat) : Met l yX7_fail (Cond.code yX7_fail cX7_fail 2 (some .boolean) :: WA) (rmO 0 0 0) (Pg G kd ad n [.ref (ad k0), .int x1] M) (Qg G kd ad n MO (some (.int vo))) 0 0 (AS kd ad n) := by
  refine g_body (own := RX7) (by decide) rfl ?_ (Nat.le_of_ble_eq_true rfl)
  intro p e s m args below meth c C _ H locs ls hI hl
  obtain ⟨hx, hb, hml, hr, hown, hts, hlk, hK, hap, hsx⟩ := id C
  have hl : lv_has ls 2 [(0, .ref (ad k0)), (1, .int x1)] := hl
  unfold mX7_fail at hf
  refine lv_aload_n hx hb (dc tbX7_fail_k 0 rfl) rfl (lv_at hl 0 rfl) ?_
  refine lv_aload_n hx hb (dc tbX7_fail_k 1 rfl) rfl (lv_at hl 0 rfl) ?_
  refine gg7_13 hx hb hts hown hK hI hk0.1 q_t7_89 (dc tbX7_fail_k 2 rfl) ?_
  refine lv_iconst (v := 1) hx hb (dc tbX7_fail_k 3 rfl) ic_1 ?_
  refine lv_icmp_ne (tgt := 13) hx hb (dc tbX7_fail_k 4 rfl) rfl (fun c1 => ?_) (fun c1 => ?_)
  · have hf := ite_f c1 hf
    refine lv_iload_n hx hb (dc tbX7_fail_k 7 rfl) rfl (lv_at hl 1 rfl) ?_
    exact tX7_fail_b14 C hk0 x1 M hf _ _ _ hI (lv_sub hl [0] rfl)
  · have hf := ite_t c1 hf
    refine lv_iconst (v := 1) hx hb (dc tbX7_fail_k 5 rfl) ic_1 ?_
    refine lv_goto (tgt := 14) hx hb (dc tbX7_fail_k 6 rfl) rfl ?_
    exact tX7_fail_b14 C hk0 (1 : Int32) M hf _ _ _ hI (lv_sub hl [0] rfl)
theorem cv_X7_fail : cvF RX7 yX7_fail cX7_fail 2 (some .boolean) 1 := ⟨q_t7_228, q_s3_12, q_t1_11, q_t7_229, by decide +kernel⟩
def mX7_number (k0 : Nat) (x1 : Int32) (x2 : Int32) (x3 : Int32) (M : Mem) : Option (Mem × Int32) := ite2 ((rd M k0 13) = (3 : Int32)) (cap (mX7_between ((rd M k0 14)).toInt64 (x2).toInt64 (x3).toInt64 M) (fun r3 => ite2 (r3 = 0) (cal (mX7_fail k0 (3 : Int32) M) (fun M15 r14 => chk (isB r14) (some (M15, r14)))) (chk (okb x1 86) (bnd (wr M (k0 + 2) (x1).toNatClampNeg (rd M k0 14)) (fun M8 => cal (mX7_advance k0 M8) (fun M11 r10 => chk (isB r10) (some (M11, r10)))))))) (cal (mX7_fail k0 (2 : Int32) M) (fun M19 r18 => chk (isB r18) (some (M19, r18))))
set_option maxHeartbeats 4000000 in
set_option maxRecDepth 100000 in
theorem tX7_number (l : Launch) {G : GT} {kd : Nat → Nat × Nat} {ad : Nat → Nat} {k0 : Nat} (hk0 : kModel kd k0) {x1 : Int32} {x2 : Int32} {x3 : Int32} {M : Mem} {MO : Mem} {vo : Int32} (hf : mX7_number k0 x1 x2 x3 M = some (MO, vo)) (n : Nat) : Met l yX7_number (Cond.code yX7_number cX7_number 4 (some .boolean) :: WA) (rmO 2 0 0) (Pg G kd ad n [.ref (ad k0), .int x1, .int x2, .int x3] M) (Qg G kd ad n MO (some (.int vo))) 0 0 (AS kd ad n) := by
  refine g_body (own := RX7) (by decide) rfl ?_ (Nat.le_of_ble_eq_true rfl)
  intro p e s m args below meth c C _ H locs ls hI hl
  obtain ⟨hx, hb, hml, hr, hown, hts, hlk, hK, hap, hsx⟩ := id C
  have hl : lv_has ls 4 [(0, .ref (ad k0)), (1, .int x1), (2, .int x2), (3, .int x3)] := hl
  unfold mX7_number at hf
  refine lv_aload_n hx hb (dc tbX7_number_k 0 rfl) rfl (lv_at hl 0 rfl) ?_
  refine gg7_13 hx hb hts hown hK hI hk0.1 q_t7_89 (dc tbX7_number_k 1 rfl) ?_
  refine lv_iconst (v := 3) hx hb (dc tbX7_number_k 2 rfl) ic_3 ?_
  refine lv_icmp_eq (tgt := 14) hx hb (dc tbX7_number_k 3 rfl) rfl (fun c1 => ?_) (fun c1 => ?_)
  · have hf := ite_t c1 hf
    refine lv_aload_n hx hb (dc tbX7_number_k 8 rfl) rfl (lv_at hl 0 rfl) ?_
    refine gg7_14 hx hb hts hown hK hI hk0.1 q_t7_90 (dc tbX7_number_k 9 rfl) ?_
    refine lv_i2l hx hb (dc tbX7_number_k 10 rfl) rfl ?_
    refine lv_iload_n hx hb (dc tbX7_number_k 11 rfl) rfl (lv_at hl 2 rfl) ?_
    refine lv_i2l hx hb (dc tbX7_number_k 12 rfl) rfl ?_
    refine lv_iload_n hx hb (dc tbX7_number_k 13 rfl) rfl (lv_at hl 3 rfl) ?_
    refine lv_i2l hx hb (dc tbX7_number_k 14 rfl) rfl ?_
    obtain ⟨r3, q2, hf⟩ := cap_s hf
    refine g_callSi hx hb hml hown hts hK hap hsx hI (tX7_between l  q2 H.size) cs_X7_between q_t7_190 rfl rfl ⟨Nat.le_of_ble_eq_true rfl, Nat.le_of_ble_eq_true rfl⟩ rfl hl.1 rfl (Nat.le_of_ble_eq_true rfl) (dc tbX7_number_k 15 rfl) ⟨Nat.le_of_ble_eq_true rfl, Nat.le_of_ble_eq_true rfl⟩ (fun H locs hI => ?_)
    refine lv_if_ne (tgt := 35) hx hb (dc tbX7_number_k 16 rfl) rfl (fun c5 => ?_) (fun c5 => ?_)
    · have hf := ite_f c5 hf
      refine lv_aload_n hx hb (dc tbX7_number_k 21 rfl) rfl (lv_at hl 0 rfl) ?_
      refine gg7_1 hx hb hts hown hK hI hk0.1 q_t7_77 (dc tbX7_number_k 22 rfl) ?_
      refine lv_iload_n hx hb (dc tbX7_number_k 23 rfl) rfl (lv_at hl 1 rfl) ?_
      refine lv_aload_n hx hb (dc tbX7_number_k 24 rfl) rfl (lv_at hl 0 rfl) ?_
      refine gg7_14 hx hb hts hown hK hI hk0.1 q_t7_90 (dc tbX7_number_k 25 rfl) ?_
      obtain ⟨h6, hf⟩ := chk_s hf
      obtain ⟨M8, e7, hf⟩ := bnd_s hf
      refine g_iast hx hb hK hap hI hk0.2.2.1 (okb_in h6) (dc tbX7_number_k 26 rfl) e7 (fun H locs hI => ?_)
      refine lv_aload_n hx hb (dc tbX7_number_k 27 rfl) rfl (lv_at hl 0 rfl) ?_
      obtain ⟨M11, r10, q9, hf⟩ := cal_s hf
      refine g_callVi hx hb hml hown hts hK hap hsx hI (tX7_advance l hk0 q9 H.size) cv_X7_advance q_t7_193 rfl rfl ⟨Nat.le_of_ble_eq_true rfl, Nat.le_of_ble_eq_true rfl⟩ hk0.1 (by simp) rfl rfl rfl hl.1 rfl (Nat.le_of_ble_eq_true rfl) (dc tbX7_number_k 28 rfl) ⟨Nat.le_of_ble_eq_true rfl, Nat.le_of_ble_eq_true rfl⟩ (fun H locs hI => ?_)
      obtain ⟨h12, hf⟩ := chk_s hf
      cases hf
      exact g_zret hx hb hr hlk hI (isB_n h12) (dc tbX7_number_k 29 rfl)
    · have hf := ite_t c5 hf
      refine lv_aload_n hx hb (dc tbX7_number_k 17 rfl) rfl (lv_at hl 0 rfl) ?_
      refine lv_iconst (v := 3) hx hb (dc tbX7_number_k 18 rfl) ic_3 ?_
      obtain ⟨M15, r14, q13, hf⟩ := cal_s hf
      refine g_callVi hx hb hml hown hts hK hap hsx hI (tX7_fail l hk0 q13 H.size) cv_X7_fail q_t7_226 rfl rfl ⟨Nat.le_of_ble_eq_true rfl, Nat.le_of_ble_eq_true rfl⟩ hk0.1 (by simp) rfl rfl rfl hl.1 rfl (Nat.le_of_ble_eq_true rfl) (dc tbX7_number_k 19 rfl) ⟨Nat.le_of_ble_eq_true rfl, Nat.le_of_ble_eq_true rfl⟩ (fun H locs hI => ?_)
      obtain ⟨h16, hf⟩ := chk_s hf
      cases hf
      exact g_zret hx hb hr hlk hI (isB_n h16) (dc tbX7_number_k 20 rfl)
  · have hf := ite_f c1 hf
    refine lv_aload_n hx hb (dc tbX7_number_k 4 rfl) rfl (lv_at hl 0 rfl) ?_
    refine lv_iconst (v := 2) hx hb (dc tbX7_number_k 5 rfl) ic_2 ?_
    obtain ⟨M19, r18, q17, hf⟩ := cal_s hf
    refine g_callVi hx hb hml hown hts hK hap hsx hI (tX7_fail l hk0 q17 H.size) cv_X7_fail q_t7_226 rfl rfl ⟨Nat.le_of_ble_eq_true rfl, Nat.le_of_ble_eq_true rfl⟩ hk0.1 (by simp) rfl rfl rfl hl.1 rfl (Nat.le_of_ble_eq_true rfl) (dc tbX7_number_k 6 rfl) ⟨Nat.le_of_ble_eq_true rfl, Nat.le_of_ble_eq_true rfl⟩ (fun H locs hI => ?_)
    obtain ⟨h20, hf⟩ := chk_s hf
    cases hf
    exact g_zret hx hb hr hlk hI (isB_n h20) (dc tbX7_number_k 7 rfl)
theorem cv_X7_number : cvF RX7 yX7_number cX7_number 4 (some .boolean) 3 := ⟨q_t7_224, q_s3_11, q_t1_11, q_t7_225, by decide +kernel⟩
def mX7_closed (k0 : Nat) (M : Mem) : Option (Mem × Int32) := ite2 ((rd M k0 13) = (4 : Int32)) (cal (mX7_advance k0 M) (fun M4 r3 => chk (isB r3) (some (M4, r3)))) (cal (mX7_fail k0 (2 : Int32) M) (fun M8 r7 => chk (isB r7) (some (M8, r7))))
set_option maxHeartbeats 4000000 in
set_option maxRecDepth 100000 in
theorem tX7_closed (l : Launch) {G : GT} {kd : Nat → Nat × Nat} {ad : Nat → Nat} {k0 : Nat} (hk0 : kModel kd k0) {M : Mem} {MO : Mem} {vo : Int32} (hf : mX7_closed k0 M = some (MO, vo)) (n : Nat) : Met l yX7_closed (Cond.code yX7_closed cX7_closed 1 (some .boolean) :: WA) (rmO 2 0 0) (Pg G kd ad n [.ref (ad k0)] M) (Qg G kd ad n MO (some (.int vo))) 0 0 (AS kd ad n) := by
  refine g_body (own := RX7) (by decide) rfl ?_ (Nat.le_of_ble_eq_true rfl)
  intro p e s m args below meth c C _ H locs ls hI hl
  obtain ⟨hx, hb, hml, hr, hown, hts, hlk, hK, hap, hsx⟩ := id C
  have hl : lv_has ls 1 [(0, .ref (ad k0))] := hl
  unfold mX7_closed at hf
  refine lv_aload_n hx hb (dc tbX7_closed_k 0 rfl) rfl (lv_at hl 0 rfl) ?_
  refine gg7_13 hx hb hts hown hK hI hk0.1 q_t7_89 (dc tbX7_closed_k 1 rfl) ?_
  refine lv_iconst (v := 4) hx hb (dc tbX7_closed_k 2 rfl) ic_4 ?_
  refine lv_icmp_eq (tgt := 14) hx hb (dc tbX7_closed_k 3 rfl) rfl (fun c1 => ?_) (fun c1 => ?_)
  · have hf := ite_t c1 hf
    refine lv_aload_n hx hb (dc tbX7_closed_k 8 rfl) rfl (lv_at hl 0 rfl) ?_
    obtain ⟨M4, r3, q2, hf⟩ := cal_s hf
    refine g_callVi hx hb hml hown hts hK hap hsx hI (tX7_advance l hk0 q2 H.size) cv_X7_advance q_t7_193 rfl rfl ⟨Nat.le_of_ble_eq_true rfl, Nat.le_of_ble_eq_true rfl⟩ hk0.1 (by simp) rfl rfl rfl hl.1 rfl (Nat.le_of_ble_eq_true rfl) (dc tbX7_closed_k 9 rfl) ⟨Nat.le_of_ble_eq_true rfl, Nat.le_of_ble_eq_true rfl⟩ (fun H locs hI => ?_)
    obtain ⟨h5, hf⟩ := chk_s hf
    cases hf
    exact g_zret hx hb hr hlk hI (isB_n h5) (dc tbX7_closed_k 10 rfl)
  · have hf := ite_f c1 hf
    refine lv_aload_n hx hb (dc tbX7_closed_k 4 rfl) rfl (lv_at hl 0 rfl) ?_
    refine lv_iconst (v := 2) hx hb (dc tbX7_closed_k 5 rfl) ic_2 ?_
    obtain ⟨M8, r7, q6, hf⟩ := cal_s hf
    refine g_callVi hx hb hml hown hts hK hap hsx hI (tX7_fail l hk0 q6 H.size) cv_X7_fail q_t7_226 rfl rfl ⟨Nat.le_of_ble_eq_true rfl, Nat.le_of_ble_eq_true rfl⟩ hk0.1 (by simp) rfl rfl rfl hl.1 rfl (Nat.le_of_ble_eq_true rfl) (dc tbX7_closed_k 6 rfl) ⟨Nat.le_of_ble_eq_true rfl, Nat.le_of_ble_eq_true rfl⟩ (fun H locs hI => ?_)
    obtain ⟨h9, hf⟩ := chk_s hf
    cases hf
    exact g_zret hx hb hr hlk hI (isB_n h9) (dc tbX7_closed_k 7 rfl)
theorem cv_X7_closed : cvF RX7 yX7_closed cX7_closed 1 (some .boolean) 0 := ⟨q_t8_26, q_s4_3, q_t1_11, q_t8_27, by decide +kernel⟩
def mX7_sheetStatement (k0 : Nat) (M : Mem) : Option (Mem × Int32) := cal (mX7_advance k0 M) (fun M3 r2 => cal (mX7_number k0 (36 : Int32) (1 : Int32) (60 : Int32) M3) (fun M6 r5 => ite2 (r5 = 0) (some (M6, (0 : Int32))) (cal (mX7_number k0 (37 : Int32) (0 : Int32) (200 : Int32) M6) (fun M10 r9 => ite2 (r9 = 0) (some (M10, (0 : Int32))) (cal (mX7_number k0 (38 : Int32) (0 : Int32) (100 : Int32) M10) (fun M14 r13 => ite2 (r13 = 0) (some (M14, (0 : Int32))) (some (M14, (1 : Int32)))))))))
set_option maxHeartbeats 4000000 in
set_option maxRecDepth 100000 in
theorem tX7_sheetStatement (l : Launch) {G : GT} {kd : Nat → Nat × Nat} {ad : Nat → Nat} {k0 : Nat} (hk0 : kModel kd k0) {M : Mem} {MO : Mem} {vo : Int32} (hf : mX7_sheetStatement k0 M = some (MO, vo)) (n : Nat) : Met l yX7_sheetStatement (Cond.code yX7_sheetStatement cX7_sheetStatement 1 (some .boolean) :: WA) (rmO 3 0 0) (Pg G kd ad n [.ref (ad k0)] M) (Qg G kd ad n MO (some (.int vo))) 0 0 (AS kd ad n) := by
  refine g_body (own := RX7) (by decide) rfl ?_ (Nat.le_of_ble_eq_true rfl)
  intro p e s m args below meth c C _ H locs ls hI hl
  obtain ⟨hx, hb, hml, hr, hown, hts, hlk, hK, hap, hsx⟩ := id C
  have hl : lv_has ls 1 [(0, .ref (ad k0))] := hl
  unfold mX7_sheetStatement at hf
  refine lv_aload_n hx hb (dc tbX7_sheetStatement_k 0 rfl) rfl (lv_at hl 0 rfl) ?_
  obtain ⟨M3, r2, q1, hf⟩ := cal_s hf
  refine g_callVi hx hb hml hown hts hK hap hsx hI (tX7_advance l hk0 q1 H.size) cv_X7_advance q_t7_193 rfl rfl ⟨Nat.le_of_ble_eq_true rfl, Nat.le_of_ble_eq_true rfl⟩ hk0.1 (by simp) rfl rfl rfl hl.1 rfl (Nat.le_of_ble_eq_true rfl) (dc tbX7_sheetStatement_k 1 rfl) ⟨Nat.le_of_ble_eq_true rfl, Nat.le_of_ble_eq_true rfl⟩ (fun H locs hI => ?_)
  refine lv_pop hx hb (dc tbX7_sheetStatement_k 2 rfl) rfl ?_
  refine lv_aload_n hx hb (dc tbX7_sheetStatement_k 3 rfl) rfl (lv_at hl 0 rfl) ?_
  refine lv_bipush (v := 36) hx hb (dc tbX7_sheetStatement_k 4 rfl) bp_36 ?_
  refine lv_iconst (v := 1) hx hb (dc tbX7_sheetStatement_k 5 rfl) ic_1 ?_
  refine lv_bipush (v := 60) hx hb (dc tbX7_sheetStatement_k 6 rfl) bp_60 ?_
  obtain ⟨M6, r5, q4, hf⟩ := cal_s hf
  refine g_callVi hx hb hml hown hts hK hap hsx hI (tX7_number l hk0 q4 H.size) cv_X7_number q_t7_222 rfl rfl ⟨Nat.le_of_ble_eq_true rfl, Nat.le_of_ble_eq_true rfl⟩ hk0.1 (by simp) rfl rfl rfl hl.1 rfl (Nat.le_of_ble_eq_true rfl) (dc tbX7_sheetStatement_k 7 rfl) ⟨Nat.le_of_ble_eq_true rfl, Nat.le_of_ble_eq_true rfl⟩ (fun H locs hI => ?_)
  refine lv_if_eq (tgt := 46) hx hb (dc tbX7_sheetStatement_k 8 rfl) rfl (fun c7 => ?_) (fun c7 => ?_)
  · have hf := ite_t c7 hf
    refine lv_iconst (v := 0) hx hb (dc tbX7_sheetStatement_k 23 rfl) ic_0 ?_
    cases hf
    exact g_zret hx hb hr hlk hI rfl (dc tbX7_sheetStatement_k 24 rfl)
  · have hf := ite_f c7 hf
    refine lv_aload_n hx hb (dc tbX7_sheetStatement_k 9 rfl) rfl (lv_at hl 0 rfl) ?_
    refine lv_bipush (v := 37) hx hb (dc tbX7_sheetStatement_k 10 rfl) bp_37 ?_
    refine lv_iconst (v := 0) hx hb (dc tbX7_sheetStatement_k 11 rfl) ic_0 ?_
    refine lv_sipush (v := 200) hx hb (dc tbX7_sheetStatement_k 12 rfl) sp_200 ?_
    obtain ⟨M10, r9, q8, hf⟩ := cal_s hf
    refine g_callVi hx hb hml hown hts hK hap hsx hI (tX7_number l hk0 q8 H.size) cv_X7_number q_t7_222 rfl rfl ⟨Nat.le_of_ble_eq_true rfl, Nat.le_of_ble_eq_true rfl⟩ hk0.1 (by simp) rfl rfl rfl hl.1 rfl (Nat.le_of_ble_eq_true rfl) (dc tbX7_sheetStatement_k 13 rfl) ⟨Nat.le_of_ble_eq_true rfl, Nat.le_of_ble_eq_true rfl⟩ (fun H locs hI => ?_)
    refine lv_if_eq (tgt := 46) hx hb (dc tbX7_sheetStatement_k 14 rfl) rfl (fun c11 => ?_) (fun c11 => ?_)
    · have hf := ite_t c11 hf
      refine lv_iconst (v := 0) hx hb (dc tbX7_sheetStatement_k 23 rfl) ic_0 ?_
      cases hf
      exact g_zret hx hb hr hlk hI rfl (dc tbX7_sheetStatement_k 24 rfl)
    · have hf := ite_f c11 hf
      refine lv_aload_n hx hb (dc tbX7_sheetStatement_k 15 rfl) rfl (lv_at hl 0 rfl) ?_
      refine lv_bipush (v := 38) hx hb (dc tbX7_sheetStatement_k 16 rfl) bp_38 ?_
      refine lv_iconst (v := 0) hx hb (dc tbX7_sheetStatement_k 17 rfl) ic_0 ?_
      refine lv_bipush (v := 100) hx hb (dc tbX7_sheetStatement_k 18 rfl) bp_100 ?_
      obtain ⟨M14, r13, q12, hf⟩ := cal_s hf
      refine g_callVi hx hb hml hown hts hK hap hsx hI (tX7_number l hk0 q12 H.size) cv_X7_number q_t7_222 rfl rfl ⟨Nat.le_of_ble_eq_true rfl, Nat.le_of_ble_eq_true rfl⟩ hk0.1 (by simp) rfl rfl rfl hl.1 rfl (Nat.le_of_ble_eq_true rfl) (dc tbX7_sheetStatement_k 19 rfl) ⟨Nat.le_of_ble_eq_true rfl, Nat.le_of_ble_eq_true rfl⟩ (fun H locs hI => ?_)
      refine lv_if_eq (tgt := 46) hx hb (dc tbX7_sheetStatement_k 20 rfl) rfl (fun c15 => ?_) (fun c15 => ?_)
      · have hf := ite_t c15 hf
        refine lv_iconst (v := 0) hx hb (dc tbX7_sheetStatement_k 23 rfl) ic_0 ?_
        cases hf
        exact g_zret hx hb hr hlk hI rfl (dc tbX7_sheetStatement_k 24 rfl)
      · have hf := ite_f c15 hf
        refine lv_iconst (v := 1) hx hb (dc tbX7_sheetStatement_k 21 rfl) ic_1 ?_
        refine lv_goto (tgt := 47) hx hb (dc tbX7_sheetStatement_k 22 rfl) rfl ?_
        cases hf
        exact g_zret hx hb hr hlk hI rfl (dc tbX7_sheetStatement_k 24 rfl)
theorem cv_X7_sheetStatement : cvF RX7 yX7_sheetStatement cX7_sheetStatement 1 (some .boolean) 0 := ⟨q_t7_220, q_s3_10, q_t1_11, q_t7_221, by decide +kernel⟩
def mX7_legStatement (k0 : Nat) (M : Mem) : Option (Mem × Int32) := chk (okb (1 : Int32) 86) (ite2 ((rd M (k0 + 2) ((1 : Int32)).toNatClampNeg) ≤ 0) (cal (mX7_advance k0 M) (fun M5 r4 => cal (mX7_number k0 (2 : Int32) (1 : Int32) (9999 : Int32) M5) (fun M8 r7 => ite2 (r7 = 0) (some (M8, (0 : Int32))) (chk (okb (1 : Int32) 86) (bnd (wr M8 (k0 + 2) ((1 : Int32)).toNatClampNeg (1 : Int32)) (fun M12 => some (M12, (1 : Int32)))))))) (cal (mX7_fail k0 (4 : Int32) M) (fun M15 r14 => chk (isB r14) (some (M15, r14)))))
set_option maxHeartbeats 4000000 in
set_option maxRecDepth 100000 in
theorem tX7_legStatement (l : Launch) {G : GT} {kd : Nat → Nat × Nat} {ad : Nat → Nat} {k0 : Nat} (hk0 : kModel kd k0) {M : Mem} {MO : Mem} {vo : Int32} (hf : mX7_legStatement k0 M = some (MO, vo)) (n : Nat) : Met l yX7_legStatement (Cond.code yX7_legStatement cX7_legStatement 1 (some .boolean) :: WA) (rmO 3 0 0) (Pg G kd ad n [.ref (ad k0)] M) (Qg G kd ad n MO (some (.int vo))) 0 0 (AS kd ad n) := by
  refine g_body (own := RX7) (by decide) rfl ?_ (Nat.le_of_ble_eq_true rfl)
  intro p e s m args below meth c C _ H locs ls hI hl
  obtain ⟨hx, hb, hml, hr, hown, hts, hlk, hK, hap, hsx⟩ := id C
  have hl : lv_has ls 1 [(0, .ref (ad k0))] := hl
  unfold mX7_legStatement at hf
  refine lv_aload_n hx hb (dc tbX7_legStatement_k 0 rfl) rfl (lv_at hl 0 rfl) ?_
  refine gg7_1 hx hb hts hown hK hI hk0.1 q_t7_77 (dc tbX7_legStatement_k 1 rfl) ?_
  refine lv_iconst (v := 1) hx hb (dc tbX7_legStatement_k 2 rfl) ic_1 ?_
  obtain ⟨h1, hf⟩ := chk_s hf
  refine g_iald hx hb hK hI hk0.2.2.1 (okb_in h1) (dc tbX7_legStatement_k 3 rfl) ?_
  refine lv_if_le (tgt := 15) hx hb (dc tbX7_legStatement_k 4 rfl) rfl (fun c2 => ?_) (fun c2 => ?_)
  · have hf := ite_t c2 hf
    refine lv_aload_n hx hb (dc tbX7_legStatement_k 9 rfl) rfl (lv_at hl 0 rfl) ?_
    obtain ⟨M5, r4, q3, hf⟩ := cal_s hf
    refine g_callVi hx hb hml hown hts hK hap hsx hI (tX7_advance l hk0 q3 H.size) cv_X7_advance q_t7_193 rfl rfl ⟨Nat.le_of_ble_eq_true rfl, Nat.le_of_ble_eq_true rfl⟩ hk0.1 (by simp) rfl rfl rfl hl.1 rfl (Nat.le_of_ble_eq_true rfl) (dc tbX7_legStatement_k 10 rfl) ⟨Nat.le_of_ble_eq_true rfl, Nat.le_of_ble_eq_true rfl⟩ (fun H locs hI => ?_)
    refine lv_pop hx hb (dc tbX7_legStatement_k 11 rfl) rfl ?_
    refine lv_aload_n hx hb (dc tbX7_legStatement_k 12 rfl) rfl (lv_at hl 0 rfl) ?_
    refine lv_iconst (v := 2) hx hb (dc tbX7_legStatement_k 13 rfl) ic_2 ?_
    refine lv_iconst (v := 1) hx hb (dc tbX7_legStatement_k 14 rfl) ic_1 ?_
    refine lv_sipush (v := 9999) hx hb (dc tbX7_legStatement_k 15 rfl) sp_9999 ?_
    obtain ⟨M8, r7, q6, hf⟩ := cal_s hf
    refine g_callVi hx hb hml hown hts hK hap hsx hI (tX7_number l hk0 q6 H.size) cv_X7_number q_t7_222 rfl rfl ⟨Nat.le_of_ble_eq_true rfl, Nat.le_of_ble_eq_true rfl⟩ hk0.1 (by simp) rfl rfl rfl hl.1 rfl (Nat.le_of_ble_eq_true rfl) (dc tbX7_legStatement_k 16 rfl) ⟨Nat.le_of_ble_eq_true rfl, Nat.le_of_ble_eq_true rfl⟩ (fun H locs hI => ?_)
    refine lv_if_ne (tgt := 34) hx hb (dc tbX7_legStatement_k 17 rfl) rfl (fun c9 => ?_) (fun c9 => ?_)
    · have hf := ite_f c9 hf
      refine lv_aload_n hx hb (dc tbX7_legStatement_k 20 rfl) rfl (lv_at hl 0 rfl) ?_
      refine gg7_1 hx hb hts hown hK hI hk0.1 q_t7_77 (dc tbX7_legStatement_k 21 rfl) ?_
      refine lv_iconst (v := 1) hx hb (dc tbX7_legStatement_k 22 rfl) ic_1 ?_
      refine lv_iconst (v := 1) hx hb (dc tbX7_legStatement_k 23 rfl) ic_1 ?_
      obtain ⟨h10, hf⟩ := chk_s hf
      obtain ⟨M12, e11, hf⟩ := bnd_s hf
      refine g_iast hx hb hK hap hI hk0.2.2.1 (okb_in h10) (dc tbX7_legStatement_k 24 rfl) e11 (fun H locs hI => ?_)
      refine lv_iconst (v := 1) hx hb (dc tbX7_legStatement_k 25 rfl) ic_1 ?_
      cases hf
      exact g_zret hx hb hr hlk hI rfl (dc tbX7_legStatement_k 26 rfl)
    · have hf := ite_t c9 hf
      refine lv_iconst (v := 0) hx hb (dc tbX7_legStatement_k 18 rfl) ic_0 ?_
      cases hf
      exact g_zret hx hb hr hlk hI rfl (dc tbX7_legStatement_k 19 rfl)
  · have hf := ite_f c2 hf
    refine lv_aload_n hx hb (dc tbX7_legStatement_k 5 rfl) rfl (lv_at hl 0 rfl) ?_
    refine lv_iconst (v := 4) hx hb (dc tbX7_legStatement_k 6 rfl) ic_4 ?_
    obtain ⟨M15, r14, q13, hf⟩ := cal_s hf
    refine g_callVi hx hb hml hown hts hK hap hsx hI (tX7_fail l hk0 q13 H.size) cv_X7_fail q_t7_226 rfl rfl ⟨Nat.le_of_ble_eq_true rfl, Nat.le_of_ble_eq_true rfl⟩ hk0.1 (by simp) rfl rfl rfl hl.1 rfl (Nat.le_of_ble_eq_true rfl) (dc tbX7_legStatement_k 7 rfl) ⟨Nat.le_of_ble_eq_true rfl, Nat.le_of_ble_eq_true rfl⟩ (fun H locs hI => ?_)
    obtain ⟨h16, hf⟩ := chk_s hf
    cases hf
    exact g_zret hx hb hr hlk hI (isB_n h16) (dc tbX7_legStatement_k 8 rfl)
theorem cv_X7_legStatement : cvF RX7 yX7_legStatement cX7_legStatement 1 (some .boolean) 0 := ⟨q_t7_233, q_s3_13, q_t1_11, q_t7_234, by decide +kernel⟩
def mX7_bendStatement_b74 (k0 : Nat) (y1 : Int32) (y2 : Int32) (M : Mem) : Option (Mem × Int32) := chk (okb y1 86) (bnd (wr M (k0 + 2) (y1).toNatClampNeg y2) (fun M16 => chk (okb (0 : Int32) 86) (chk (okb (0 : Int32) 86) (bnd (wr M16 (k0 + 2) ((0 : Int32)).toNatClampNeg ((rd M16 (k0 + 2) ((0 : Int32)).toNatClampNeg) + (1 : Int32))) (fun M20 => chk (okb (1 : Int32) 86) (chk (okb (1 : Int32) 86) (bnd (wr M20 (k0 + 2) ((1 : Int32)).toNatClampNeg ((rd M20 (k0 + 2) ((1 : Int32)).toNatClampNeg) + (1 : Int32))) (fun M24 => some (M24, (1 : Int32))))))))))
set_option maxHeartbeats 4000000 in
set_option maxRecDepth 100000 in
theorem tX7_bendStatement_b74 {p : Program} {l : Launch} {e : Env} {s : State} {m : MethodId} {args : Array Value} {below : List Frame} {meth : Method} {c : Code} {G : GT} {kd : Nat → Nat × Nat} {ad : Nat → Nat} (C : Cx p s m args meth c cX7_bendStatement 3 (some .boolean) RX7 G kd ad) {k0 : Nat} (hk0 : kModel kd k0) {MO : Mem} {vo : Int32}   : ∀ (y1 : Int32) (y2 : Int32) (M : Mem), mX7_bendStatement_b74 k0 y1 y2 M = some (MO, vo) → At p l e (rmO 3 0 0) s m args below meth c 0 0 (MQ below (Qg G kd ad s.heap.size MO (some (.int vo))) args s 0 0 (AS kd ad s.heap.size)) G kd ad 3 74 [(0, .ref (ad k0))] [.int y2, .int y1, .ref (ad (k0 + 2))] M := by
  intro y1 y2 M hf H locs ls hI hl
  obtain ⟨hx, hb, hml, hr, hown, hts, hlk, hK, hap, hsx⟩ := id C
  unfold mX7_bendStatement_b74 at hf
  obtain ⟨h14, hf⟩ := chk_s hf
  obtain ⟨M16, e15, hf⟩ := bnd_s hf
  refine g_iast hx hb hK hap hI hk0.2.2.1 (okb_in h14) (dc tbX7_bendStatement_1_k 6 rfl) e15 (fun H locs hI => ?_)
  refine lv_aload_n hx hb (dc tbX7_bendStatement_1_k 7 rfl) rfl (lv_at hl 0 rfl) ?_
  refine gg7_1 hx hb hts hown hK hI hk0.1 q_t7_77 (dc tbX7_bendStatement_1_k 8 rfl) ?_
  refine lv_iconst (v := 0) hx hb (dc tbX7_bendStatement_1_k 9 rfl) ic_0 ?_
  refine lv_dup2_11 hx hb (dc tbX7_bendStatement_1_k 10 rfl) rfl rfl ?_
  obtain ⟨h17, hf⟩ := chk_s hf
  refine g_iald hx hb hK hI hk0.2.2.1 (okb_in h17) (dc tbX7_bendStatement_1_k 11 rfl) ?_
  refine lv_iconst (v := 1) hx hb (dc tbX7_bendStatement_1_k 12 rfl) ic_1 ?_
  refine lv_iadd hx hb (dc tbX7_bendStatement_1_k 13 rfl) ?_
  obtain ⟨h18, hf⟩ := chk_s hf
  obtain ⟨M20, e19, hf⟩ := bnd_s hf
  refine g_iast hx hb hK hap hI hk0.2.2.1 (okb_in h18) (dc tbX7_bendStatement_1_k 14 rfl) e19 (fun H locs hI => ?_)
  refine lv_aload_n hx hb (dc tbX7_bendStatement_1_k 15 rfl) rfl (lv_at hl 0 rfl) ?_
  refine gg7_1 hx hb hts hown hK hI hk0.1 q_t7_77 (dc tbX7_bendStatement_1_k 16 rfl) ?_
  refine lv_iconst (v := 1) hx hb (dc tbX7_bendStatement_1_k 17 rfl) ic_1 ?_
  refine lv_dup2_11 hx hb (dc tbX7_bendStatement_1_k 18 rfl) rfl rfl ?_
  obtain ⟨h21, hf⟩ := chk_s hf
  refine g_iald hx hb hK hI hk0.2.2.1 (okb_in h21) (dc tbX7_bendStatement_1_k 19 rfl) ?_
  refine lv_iconst (v := 1) hx hb (dc tbX7_bendStatement_1_k 20 rfl) ic_1 ?_
  refine lv_iadd hx hb (dc tbX7_bendStatement_1_k 21 rfl) ?_
  obtain ⟨h22, hf⟩ := chk_s hf
  obtain ⟨M24, e23, hf⟩ := bnd_s hf
  refine g_iast hx hb hK hap hI hk0.2.2.1 (okb_in h22) (dc tbX7_bendStatement_1_k 22 rfl) e23 (fun H locs hI => ?_)
  refine lv_iconst (v := 1) hx hb (dc tbX7_bendStatement_1_k 23 rfl) ic_1 ?_
  cases hf
  exact g_zret hx hb hr hlk hI rfl (dc tbX7_bendStatement_1_k 24 rfl)
def mX7_bendStatement (k0 : Nat) (x1 : Int32) (M : Mem) : Option (Mem × Int32) := chk (okb (1 : Int32) 86) (ite2 ((rd M (k0 + 2) ((1 : Int32)).toNatClampNeg) = 0) (cal (mX7_fail k0 (4 : Int32) M) (fun M31 r30 => chk (isB r30) (some (M31, r30)))) (chk (okb (0 : Int32) 86) (bnd ((rd M (k0 + 2) ((0 : Int32)).toNatClampNeg)) (fun x2_21 => ite2 (x2_21 = (8 : Int32)) (cal (mX7_fail k0 (5 : Int32) M) (fun M27 r26 => chk (isB r26) (some (M27, r26)))) (cal (mX7_advance k0 M) (fun M8 r7 => cal (mX7_number k0 (((2 : Int32) + x2_21) + (1 : Int32)) (1 : Int32) (9999 : Int32) M8) (fun M11 r10 => ite2 (r10 = 0) (some (M11, (0 : Int32))) (ite2 (x1 = 0) (mX7_bendStatement_b74 k0 ((11 : Int32) + x2_21) (0 : Int32) M11) (mX7_bendStatement_b74 k0 ((11 : Int32) + x2_21) (1 : Int32) M11)))))))))
set_option maxHeartbeats 4000000 in
set_option maxRecDepth 100000 in
theorem tX7_bendStatement (l : Launch) {G : GT} {kd : Nat → Nat × Nat} {ad : Nat → Nat} {k0 : Nat} (hk0 : kModel kd k0) {x1 : Int32} {M : Mem} {MO : Mem} {vo : Int32} (hf : mX7_bendStatement k0 x1 M = some (MO, vo)) (n : Nat) : Met l yX7_bendStatement (Cond.code yX7_bendStatement cX7_bendStatement 3 (some .boolean) :: WA) (rmO 3 0 0) (Pg G kd ad n [.ref (ad k0), .int x1] M) (Qg G kd ad n MO (some (.int vo))) 0 0 (AS kd ad n) := by
  refine g_body (own := RX7) (by decide) rfl ?_ (Nat.le_of_ble_eq_true rfl)
  intro p e s m args below meth c C _ H locs ls hI hl
  obtain ⟨hx, hb, hml, hr, hown, hts, hlk, hK, hap, hsx⟩ := id C
  have hl : lv_has ls 3 [(0, .ref (ad k0)), (1, .int x1)] := hl
  unfold mX7_bendStatement at hf
  refine lv_aload_n hx hb (dc tbX7_bendStatement_0_k 0 rfl) rfl (lv_at hl 0 rfl) ?_
  refine gg7_1 hx hb hts hown hK hI hk0.1 q_t7_77 (dc tbX7_bendStatement_0_k 1 rfl) ?_
  refine lv_iconst (v := 1) hx hb (dc tbX7_bendStatement_0_k 2 rfl) ic_1 ?_
  obtain ⟨h1, hf⟩ := chk_s hf
  refine g_iald hx hb hK hI hk0.2.2.1 (okb_in h1) (dc tbX7_bendStatement_0_k 3 rfl) ?_
  refine lv_if_ne (tgt := 15) hx hb (dc tbX7_bendStatement_0_k 4 rfl) rfl (fun c2 => ?_) (fun c2 => ?_)
  · have hf := ite_f c2 hf
    refine lv_aload_n hx hb (dc tbX7_bendStatement_0_k 9 rfl) rfl (lv_at hl 0 rfl) ?_
    refine gg7_1 hx hb hts hown hK hI hk0.1 q_t7_77 (dc tbX7_bendStatement_0_k 10 rfl) ?_
    refine lv_iconst (v := 0) hx hb (dc tbX7_bendStatement_0_k 11 rfl) ic_0 ?_
    obtain ⟨h3, hf⟩ := chk_s hf
    refine g_iald hx hb hK hI hk0.2.2.1 (okb_in h3) (dc tbX7_bendStatement_0_k 12 rfl) ?_
    obtain ⟨x2_21, e4, hf⟩ := bnd_s hf
    refine lv_ei e4 ?_
    refine lv_istore_n (lv' := [(2, .int x2_21), (0, .ref (ad k0)), (1, .int x1)]) hx hb (dc tbX7_bendStatement_0_k 13 rfl) rfl hl (by decide) rfl (fun ls hl => ?_)
    refine lv_iload_n hx hb (dc tbX7_bendStatement_0_k 14 rfl) rfl (lv_at hl 0 rfl) ?_
    refine lv_bipush (v := 8) hx hb (dc tbX7_bendStatement_0_k 15 rfl) bp_8 ?_
    refine lv_icmp_ne (tgt := 34) hx hb (dc tbX7_bendStatement_0_k 16 rfl) rfl (fun c5 => ?_) (fun c5 => ?_)
    · have hf := ite_f c5 hf
      refine lv_aload_n hx hb (dc tbX7_bendStatement_0_k 21 rfl) rfl (lv_at hl 1 rfl) ?_
      obtain ⟨M8, r7, q6, hf⟩ := cal_s hf
      refine g_callVi hx hb hml hown hts hK hap hsx hI (tX7_advance l hk0 q6 H.size) cv_X7_advance q_t7_193 rfl rfl ⟨Nat.le_of_ble_eq_true rfl, Nat.le_of_ble_eq_true rfl⟩ hk0.1 (by simp) rfl rfl rfl hl.1 rfl (Nat.le_of_ble_eq_true rfl) (dc tbX7_bendStatement_0_k 22 rfl) ⟨Nat.le_of_ble_eq_true rfl, Nat.le_of_ble_eq_true rfl⟩ (fun H locs hI => ?_)
      refine lv_pop hx hb (dc tbX7_bendStatement_0_k 23 rfl) rfl ?_
      refine lv_aload_n hx hb (dc tbX7_bendStatement_0_k 24 rfl) rfl (lv_at hl 1 rfl) ?_
      refine lv_iconst (v := 2) hx hb (dc tbX7_bendStatement_0_k 25 rfl) ic_2 ?_
      refine lv_iload_n hx hb (dc tbX7_bendStatement_0_k 26 rfl) rfl (lv_at hl 0 rfl) ?_
      refine lv_iadd hx hb (dc tbX7_bendStatement_0_k 27 rfl) ?_
      refine lv_iconst (v := 1) hx hb (dc tbX7_bendStatement_0_k 28 rfl) ic_1 ?_
      refine lv_iadd hx hb (dc tbX7_bendStatement_0_k 29 rfl) ?_
      refine lv_iconst (v := 1) hx hb (dc tbX7_bendStatement_0_k 30 rfl) ic_1 ?_
      refine lv_sipush (v := 9999) hx hb (dc tbX7_bendStatement_0_k 31 rfl) sp_9999 ?_
      obtain ⟨M11, r10, q9, hf⟩ := cal_s hf
      refine g_callVi hx hb hml hown hts hK hap hsx hI (tX7_number l hk0 q9 H.size) cv_X7_number q_t7_222 rfl rfl ⟨Nat.le_of_ble_eq_true rfl, Nat.le_of_ble_eq_true rfl⟩ hk0.1 (by simp) rfl rfl rfl hl.1 rfl (Nat.le_of_ble_eq_true rfl) (dc tbX7_bendStatement_0_k 32 rfl) ⟨Nat.le_of_ble_eq_true rfl, Nat.le_of_ble_eq_true rfl⟩ (fun H locs hI => ?_)
      refine lv_if_ne (tgt := 57) hx hb (dc tbX7_bendStatement_0_k 33 rfl) rfl (fun c12 => ?_) (fun c12 => ?_)
      · have hf := ite_f c12 hf
        refine lv_aload_n hx hb (dc tbX7_bendStatement_0_k 36 rfl) rfl (lv_at hl 1 rfl) ?_
        refine gg7_1 hx hb hts hown hK hI hk0.1 q_t7_77 (dc tbX7_bendStatement_0_k 37 rfl) ?_
        refine lv_bipush (v := 11) hx hb (dc tbX7_bendStatement_0_k 38 rfl) bp_11 ?_
        refine lv_iload_n hx hb (dc tbX7_bendStatement_0_k 39 rfl) rfl (lv_at hl 0 rfl) ?_
        refine lv_iadd hx hb (dc tbX7_bendStatement_1_k 0 rfl) ?_
        refine lv_iload_n hx hb (dc tbX7_bendStatement_1_k 1 rfl) rfl (lv_at hl 2 rfl) ?_
        refine lv_if_eq (tgt := 73) hx hb (dc tbX7_bendStatement_1_k 2 rfl) rfl (fun c13 => ?_) (fun c13 => ?_)
        · have hf := ite_t c13 hf
          refine lv_iconst (v := 0) hx hb (dc tbX7_bendStatement_1_k 5 rfl) ic_0 ?_
          exact tX7_bendStatement_b74 C hk0 ((11 : Int32) + x2_21) (0 : Int32) M11 hf _ _ _ hI (lv_sub hl [1] rfl)
        · have hf := ite_f c13 hf
          refine lv_iconst (v := 1) hx hb (dc tbX7_bendStatement_1_k 3 rfl) ic_1 ?_
          refine lv_goto (tgt := 74) hx hb (dc tbX7_bendStatement_1_k 4 rfl) rfl ?_
          exact tX7_bendStatement_b74 C hk0 ((11 : Int32) + x2_21) (1 : Int32) M11 hf _ _ _ hI (lv_sub hl [1] rfl)
      · have hf := ite_t c12 hf
        refine lv_iconst (v := 0) hx hb (dc tbX7_bendStatement_0_k 34 rfl) ic_0 ?_
        cases hf
        exact g_zret hx hb hr hlk hI rfl (dc tbX7_bendStatement_0_k 35 rfl)
    · have hf := ite_t c5 hf
      refine lv_aload_n hx hb (dc tbX7_bendStatement_0_k 17 rfl) rfl (lv_at hl 1 rfl) ?_
      refine lv_iconst (v := 5) hx hb (dc tbX7_bendStatement_0_k 18 rfl) ic_5 ?_
      obtain ⟨M27, r26, q25, hf⟩ := cal_s hf
      refine g_callVi hx hb hml hown hts hK hap hsx hI (tX7_fail l hk0 q25 H.size) cv_X7_fail q_t7_226 rfl rfl ⟨Nat.le_of_ble_eq_true rfl, Nat.le_of_ble_eq_true rfl⟩ hk0.1 (by simp) rfl rfl rfl hl.1 rfl (Nat.le_of_ble_eq_true rfl) (dc tbX7_bendStatement_0_k 19 rfl) ⟨Nat.le_of_ble_eq_true rfl, Nat.le_of_ble_eq_true rfl⟩ (fun H locs hI => ?_)
      obtain ⟨h28, hf⟩ := chk_s hf
      cases hf
      exact g_zret hx hb hr hlk hI (isB_n h28) (dc tbX7_bendStatement_0_k 20 rfl)
  · have hf := ite_t c2 hf
    refine lv_aload_n hx hb (dc tbX7_bendStatement_0_k 5 rfl) rfl (lv_at hl 0 rfl) ?_
    refine lv_iconst (v := 4) hx hb (dc tbX7_bendStatement_0_k 6 rfl) ic_4 ?_
    obtain ⟨M31, r30, q29, hf⟩ := cal_s hf
    refine g_callVi hx hb hml hown hts hK hap hsx hI (tX7_fail l hk0 q29 H.size) cv_X7_fail q_t7_226 rfl rfl ⟨Nat.le_of_ble_eq_true rfl, Nat.le_of_ble_eq_true rfl⟩ hk0.1 (by simp) rfl rfl rfl hl.1 rfl (Nat.le_of_ble_eq_true rfl) (dc tbX7_bendStatement_0_k 7 rfl) ⟨Nat.le_of_ble_eq_true rfl, Nat.le_of_ble_eq_true rfl⟩ (fun H locs hI => ?_)
    obtain ⟨h32, hf⟩ := chk_s hf
    cases hf
    exact g_zret hx hb hr hlk hI (isB_n h32) (dc tbX7_bendStatement_0_k 8 rfl)
theorem cv_X7_bendStatement : cvF RX7 yX7_bendStatement cX7_bendStatement 3 (some .boolean) 1 := ⟨q_t7_239, q_s3_14, q_t1_11, q_t8_0, by decide +kernel⟩
def mX7_backStatement_b48 (k0 : Nat) (x1 : Int32) (y0 : Int32) (M : Mem) : Option (Mem × Int32) := cal (mX7_number k0 ((20 : Int32) + ((2 : Int32) * x1)) y0 (999 : Int32) M) (fun M11 r10 => ite2 (r10 = 0) (some (M11, (0 : Int32))) (cal (mX7_number k0 (((20 : Int32) + ((2 : Int32) * x1)) + (1 : Int32)) (0 : Int32) (300 : Int32) M11) (fun M15 r14 => ite2 (r14 = 0) (some (M15, (0 : Int32))) (chk (okb (19 : Int32) 86) (chk (okb (19 : Int32) 86) (bnd (wr M15 (k0 + 2) ((19 : Int32)).toNatClampNeg ((rd M15 (k0 + 2) ((19 : Int32)).toNatClampNeg) + (1 : Int32))) (fun M20 => some (M20, (1 : Int32)))))))))
set_option maxHeartbeats 4000000 in
set_option maxRecDepth 100000 in
theorem tX7_backStatement_b48 {p : Program} {l : Launch} {e : Env} {s : State} {m : MethodId} {args : Array Value} {below : List Frame} {meth : Method} {c : Code} {G : GT} {kd : Nat → Nat × Nat} {ad : Nat → Nat} (C : Cx p s m args meth c cX7_backStatement 3 (some .boolean) RX7 G kd ad) {k0 : Nat} (hk0 : kModel kd k0) {MO : Mem} {vo : Int32}   : ∀ (x1 : Int32) (y0 : Int32) (M : Mem), mX7_backStatement_b48 k0 x1 y0 M = some (MO, vo) → At p l e (rmO 3 0 0) s m args below meth c 0 0 (MQ below (Qg G kd ad s.heap.size MO (some (.int vo))) args s 0 0 (AS kd ad s.heap.size)) G kd ad 3 48 [(0, .ref (ad k0)), (1, .int x1)] [.int y0] M := by
  intro x1 y0 M hf H locs ls hI hl
  obtain ⟨hx, hb, hml, hr, hown, hts, hlk, hK, hap, hsx⟩ := id C
  unfold mX7_backStatement_b48 at hf
  refine lv_istore_n (lv' := [(2, .int y0), (0, .ref (ad k0)), (1, .int x1)]) hx hb (dc tbX7_backStatement_0_k 31 rfl) rfl hl (by decide) rfl (fun ls hl => ?_)
  refine lv_aload_n hx hb (dc tbX7_backStatement_0_k 32 rfl) rfl (lv_at hl 1 rfl) ?_
  refine lv_bipush (v := 20) hx hb (dc tbX7_backStatement_0_k 33 rfl) bp_20 ?_
  refine lv_iconst (v := 2) hx hb (dc tbX7_backStatement_0_k 34 rfl) ic_2 ?_
  refine lv_iload_n hx hb (dc tbX7_backStatement_0_k 35 rfl) rfl (lv_at hl 2 rfl) ?_
  refine lv_imul hx hb (dc tbX7_backStatement_0_k 36 rfl) ?_
  refine lv_iadd hx hb (dc tbX7_backStatement_0_k 37 rfl) ?_
  refine lv_iload_n hx hb (dc tbX7_backStatement_0_k 38 rfl) rfl (lv_at hl 0 rfl) ?_
  refine lv_sipush (v := 999) hx hb (dc tbX7_backStatement_0_k 39 rfl) sp_999 ?_
  obtain ⟨M11, r10, q9, hf⟩ := cal_s hf
  refine g_callVi hx hb hml hown hts hK hap hsx hI (tX7_number l hk0 q9 H.size) cv_X7_number q_t7_222 rfl rfl ⟨Nat.le_of_ble_eq_true rfl, Nat.le_of_ble_eq_true rfl⟩ hk0.1 (by simp) rfl rfl rfl hl.1 rfl (Nat.le_of_ble_eq_true rfl) (dc tbX7_backStatement_1_k 0 rfl) ⟨Nat.le_of_ble_eq_true rfl, Nat.le_of_ble_eq_true rfl⟩ (fun H locs hI => ?_)
  refine lv_if_eq (tgt := 85) hx hb (dc tbX7_backStatement_1_k 1 rfl) rfl (fun c12 => ?_) (fun c12 => ?_)
  · have hf := ite_t c12 hf
    refine lv_iconst (v := 0) hx hb (dc tbX7_backStatement_1_k 14 rfl) ic_0 ?_
    cases hf
    exact g_zret hx hb hr hlk hI rfl (dc tbX7_backStatement_1_k 15 rfl)
  · have hf := ite_f c12 hf
    refine lv_aload_n hx hb (dc tbX7_backStatement_1_k 2 rfl) rfl (lv_at hl 1 rfl) ?_
    refine lv_bipush (v := 20) hx hb (dc tbX7_backStatement_1_k 3 rfl) bp_20 ?_
    refine lv_iconst (v := 2) hx hb (dc tbX7_backStatement_1_k 4 rfl) ic_2 ?_
    refine lv_iload_n hx hb (dc tbX7_backStatement_1_k 5 rfl) rfl (lv_at hl 2 rfl) ?_
    refine lv_imul hx hb (dc tbX7_backStatement_1_k 6 rfl) ?_
    refine lv_iadd hx hb (dc tbX7_backStatement_1_k 7 rfl) ?_
    refine lv_iconst (v := 1) hx hb (dc tbX7_backStatement_1_k 8 rfl) ic_1 ?_
    refine lv_iadd hx hb (dc tbX7_backStatement_1_k 9 rfl) ?_
    refine lv_iconst (v := 0) hx hb (dc tbX7_backStatement_1_k 10 rfl) ic_0 ?_
    refine lv_sipush (v := 300) hx hb (dc tbX7_backStatement_1_k 11 rfl) sp_300 ?_
    obtain ⟨M15, r14, q13, hf⟩ := cal_s hf
    refine g_callVi hx hb hml hown hts hK hap hsx hI (tX7_number l hk0 q13 H.size) cv_X7_number q_t7_222 rfl rfl ⟨Nat.le_of_ble_eq_true rfl, Nat.le_of_ble_eq_true rfl⟩ hk0.1 (by simp) rfl rfl rfl hl.1 rfl (Nat.le_of_ble_eq_true rfl) (dc tbX7_backStatement_1_k 12 rfl) ⟨Nat.le_of_ble_eq_true rfl, Nat.le_of_ble_eq_true rfl⟩ (fun H locs hI => ?_)
    refine lv_if_ne (tgt := 87) hx hb (dc tbX7_backStatement_1_k 13 rfl) rfl (fun c16 => ?_) (fun c16 => ?_)
    · have hf := ite_f c16 hf
      refine lv_aload_n hx hb (dc tbX7_backStatement_1_k 16 rfl) rfl (lv_at hl 1 rfl) ?_
      refine gg7_1 hx hb hts hown hK hI hk0.1 q_t7_77 (dc tbX7_backStatement_1_k 17 rfl) ?_
      refine lv_bipush (v := 19) hx hb (dc tbX7_backStatement_1_k 18 rfl) bp_19 ?_
      refine lv_dup2_11 hx hb (dc tbX7_backStatement_1_k 19 rfl) rfl rfl ?_
      obtain ⟨h17, hf⟩ := chk_s hf
      refine g_iald hx hb hK hI hk0.2.2.1 (okb_in h17) (dc tbX7_backStatement_1_k 20 rfl) ?_
      refine lv_iconst (v := 1) hx hb (dc tbX7_backStatement_1_k 21 rfl) ic_1 ?_
      refine lv_iadd hx hb (dc tbX7_backStatement_1_k 22 rfl) ?_
      obtain ⟨h18, hf⟩ := chk_s hf
      obtain ⟨M20, e19, hf⟩ := bnd_s hf
      refine g_iast hx hb hK hap hI hk0.2.2.1 (okb_in h18) (dc tbX7_backStatement_1_k 23 rfl) e19 (fun H locs hI => ?_)
      refine lv_iconst (v := 1) hx hb (dc tbX7_backStatement_1_k 24 rfl) ic_1 ?_
      cases hf
      exact g_zret hx hb hr hlk hI rfl (dc tbX7_backStatement_1_k 25 rfl)
    · have hf := ite_t c16 hf
      refine lv_iconst (v := 0) hx hb (dc tbX7_backStatement_1_k 14 rfl) ic_0 ?_
      cases hf
      exact g_zret hx hb hr hlk hI rfl (dc tbX7_backStatement_1_k 15 rfl)
def mX7_backStatement (k0 : Nat) (M : Mem) : Option (Mem × Int32) := chk (okb (19 : Int32) 86) (bnd ((rd M (k0 + 2) ((19 : Int32)).toNatClampNeg)) (fun x1_7 => ite2 (x1_7 = (8 : Int32)) (cal (mX7_fail k0 (5 : Int32) M) (fun M23 r22 => chk (isB r22) (some (M23, r22)))) (cal (mX7_advance k0 M) (fun M6 r5 => ite2 (x1_7 = 0) (mX7_backStatement_b48 k0 x1_7 (0 : Int32) M6) (chk (okb (((20 : Int32) + ((2 : Int32) * x1_7)) - (2 : Int32)) 86) (mX7_backStatement_b48 k0 x1_7 ((rd M6 (k0 + 2) ((((20 : Int32) + ((2 : Int32) * x1_7)) - (2 : Int32))).toNatClampNeg) + (1 : Int32)) M6))))))
set_option maxHeartbeats 4000000 in
set_option maxRecDepth 100000 in
theorem tX7_backStatement (l : Launch) {G : GT} {kd : Nat → Nat × Nat} {ad : Nat → Nat} {k0 : Nat} (hk0 : kModel kd k0) {M : Mem} {MO : Mem} {vo : Int32} (hf : mX7_backStatement k0 M = some (MO, vo)) (n : Nat) : Met l yX7_backStatement (Cond.code yX7_backStatement cX7_backStatement 3 (some .boolean) :: WA) (rmO 3 0 0) (Pg G kd ad n [.ref (ad k0)] M) (Qg G kd ad n MO (some (.int vo))) 0 0 (AS kd ad n) := by
  refine g_body (own := RX7) (by decide) rfl ?_ (Nat.le_of_ble_eq_true rfl)
  intro p e s m args below meth c C _ H locs ls hI hl
  obtain ⟨hx, hb, hml, hr, hown, hts, hlk, hK, hap, hsx⟩ := id C
  have hl : lv_has ls 3 [(0, .ref (ad k0))] := hl
  unfold mX7_backStatement at hf
  refine lv_aload_n hx hb (dc tbX7_backStatement_0_k 0 rfl) rfl (lv_at hl 0 rfl) ?_
  refine gg7_1 hx hb hts hown hK hI hk0.1 q_t7_77 (dc tbX7_backStatement_0_k 1 rfl) ?_
  refine lv_bipush (v := 19) hx hb (dc tbX7_backStatement_0_k 2 rfl) bp_19 ?_
  obtain ⟨h1, hf⟩ := chk_s hf
  refine g_iald hx hb hK hI hk0.2.2.1 (okb_in h1) (dc tbX7_backStatement_0_k 3 rfl) ?_
  obtain ⟨x1_7, e2, hf⟩ := bnd_s hf
  refine lv_ei e2 ?_
  refine lv_istore_n (lv' := [(1, .int x1_7), (0, .ref (ad k0))]) hx hb (dc tbX7_backStatement_0_k 4 rfl) rfl hl (by decide) rfl (fun ls hl => ?_)
  refine lv_iload_n hx hb (dc tbX7_backStatement_0_k 5 rfl) rfl (lv_at hl 0 rfl) ?_
  refine lv_bipush (v := 8) hx hb (dc tbX7_backStatement_0_k 6 rfl) bp_8 ?_
  refine lv_icmp_ne (tgt := 20) hx hb (dc tbX7_backStatement_0_k 7 rfl) rfl (fun c3 => ?_) (fun c3 => ?_)
  · have hf := ite_f c3 hf
    refine lv_aload_n hx hb (dc tbX7_backStatement_0_k 12 rfl) rfl (lv_at hl 1 rfl) ?_
    obtain ⟨M6, r5, q4, hf⟩ := cal_s hf
    refine g_callVi hx hb hml hown hts hK hap hsx hI (tX7_advance l hk0 q4 H.size) cv_X7_advance q_t7_193 rfl rfl ⟨Nat.le_of_ble_eq_true rfl, Nat.le_of_ble_eq_true rfl⟩ hk0.1 (by simp) rfl rfl rfl hl.1 rfl (Nat.le_of_ble_eq_true rfl) (dc tbX7_backStatement_0_k 13 rfl) ⟨Nat.le_of_ble_eq_true rfl, Nat.le_of_ble_eq_true rfl⟩ (fun H locs hI => ?_)
    refine lv_pop hx hb (dc tbX7_backStatement_0_k 14 rfl) rfl ?_
    refine lv_iload_n hx hb (dc tbX7_backStatement_0_k 15 rfl) rfl (lv_at hl 0 rfl) ?_
    refine lv_if_ne (tgt := 33) hx hb (dc tbX7_backStatement_0_k 16 rfl) rfl (fun c7 => ?_) (fun c7 => ?_)
    · have hf := ite_f c7 hf
      refine lv_aload_n hx hb (dc tbX7_backStatement_0_k 19 rfl) rfl (lv_at hl 1 rfl) ?_
      refine gg7_1 hx hb hts hown hK hI hk0.1 q_t7_77 (dc tbX7_backStatement_0_k 20 rfl) ?_
      refine lv_bipush (v := 20) hx hb (dc tbX7_backStatement_0_k 21 rfl) bp_20 ?_
      refine lv_iconst (v := 2) hx hb (dc tbX7_backStatement_0_k 22 rfl) ic_2 ?_
      refine lv_iload_n hx hb (dc tbX7_backStatement_0_k 23 rfl) rfl (lv_at hl 0 rfl) ?_
      refine lv_imul hx hb (dc tbX7_backStatement_0_k 24 rfl) ?_
      refine lv_iadd hx hb (dc tbX7_backStatement_0_k 25 rfl) ?_
      refine lv_iconst (v := 2) hx hb (dc tbX7_backStatement_0_k 26 rfl) ic_2 ?_
      refine lv_isub hx hb (dc tbX7_backStatement_0_k 27 rfl) ?_
      obtain ⟨h8, hf⟩ := chk_s hf
      refine g_iald hx hb hK hI hk0.2.2.1 (okb_in h8) (dc tbX7_backStatement_0_k 28 rfl) ?_
      refine lv_iconst (v := 1) hx hb (dc tbX7_backStatement_0_k 29 rfl) ic_1 ?_
      refine lv_iadd hx hb (dc tbX7_backStatement_0_k 30 rfl) ?_
      exact tX7_backStatement_b48 C hk0 x1_7 ((rd M6 (k0 + 2) ((((20 : Int32) + ((2 : Int32) * x1_7)) - (2 : Int32))).toNatClampNeg) + (1 : Int32)) M6 hf _ _ _ hI (lv_sub hl [1, 0] rfl)
    · have hf := ite_t c7 hf
      refine lv_iconst (v := 0) hx hb (dc tbX7_backStatement_0_k 17 rfl) ic_0 ?_
      refine lv_goto (tgt := 48) hx hb (dc tbX7_backStatement_0_k 18 rfl) rfl ?_
      exact tX7_backStatement_b48 C hk0 x1_7 (0 : Int32) M6 hf _ _ _ hI (lv_sub hl [1, 0] rfl)
  · have hf := ite_t c3 hf
    refine lv_aload_n hx hb (dc tbX7_backStatement_0_k 8 rfl) rfl (lv_at hl 1 rfl) ?_
    refine lv_iconst (v := 5) hx hb (dc tbX7_backStatement_0_k 9 rfl) ic_5 ?_
    obtain ⟨M23, r22, q21, hf⟩ := cal_s hf
    refine g_callVi hx hb hml hown hts hK hap hsx hI (tX7_fail l hk0 q21 H.size) cv_X7_fail q_t7_226 rfl rfl ⟨Nat.le_of_ble_eq_true rfl, Nat.le_of_ble_eq_true rfl⟩ hk0.1 (by simp) rfl rfl rfl hl.1 rfl (Nat.le_of_ble_eq_true rfl) (dc tbX7_backStatement_0_k 10 rfl) ⟨Nat.le_of_ble_eq_true rfl, Nat.le_of_ble_eq_true rfl⟩ (fun H locs hI => ?_)
    obtain ⟨h24, hf⟩ := chk_s hf
    cases hf
    exact g_zret hx hb hr hlk hI (isB_n h24) (dc tbX7_backStatement_0_k 11 rfl)
theorem cv_X7_backStatement : cvF RX7 yX7_backStatement cX7_backStatement 3 (some .boolean) 0 := ⟨q_t8_4, q_s3_15, q_t1_11, q_t8_5, by decide +kernel⟩
def mX7_toolStatement_b59 (k0 : Nat) (M : Mem) : Option (Mem × Int32) := some (M, (1 : Int32))
set_option maxHeartbeats 4000000 in
set_option maxRecDepth 100000 in
theorem tX7_toolStatement_b59 {p : Program} {l : Launch} {e : Env} {s : State} {m : MethodId} {args : Array Value} {below : List Frame} {meth : Method} {c : Code} {G : GT} {kd : Nat → Nat × Nat} {ad : Nat → Nat} (C : Cx p s m args meth c cX7_toolStatement 3 (some .boolean) RX7 G kd ad) {k0 : Nat} (hk0 : kModel kd k0) {MO : Mem} {vo : Int32}   : ∀  (M : Mem), mX7_toolStatement_b59 k0 M = some (MO, vo) → At p l e (rmO 3 0 0) s m args below meth c 0 0 (MQ below (Qg G kd ad s.heap.size MO (some (.int vo))) args s 0 0 (AS kd ad s.heap.size)) G kd ad 3 59 [] [] M := by
  intro M hf H locs ls hI hl
  obtain ⟨hx, hb, hml, hr, hown, hts, hlk, hK, hap, hsx⟩ := id C
  unfold mX7_toolStatement_b59 at hf
  refine lv_iconst (v := 1) hx hb (dc tbX7_toolStatement_k 36 rfl) ic_1 ?_
  refine lv_goto (tgt := 64) hx hb (dc tbX7_toolStatement_k 37 rfl) rfl ?_
  cases hf
  exact g_zret hx hb hr hlk hI rfl (dc tbX7_toolStatement_k 39 rfl)
def mX7_toolStatement_b50 (k0 : Nat) (y1 : Int32) (y2 : Int32) (M : Mem) : Option (Mem × Int32) := cal (mX7_number k0 y1 y2 (9999 : Int32) M) (fun M13 r12 => ite2 (r12 = 0) (some (M13, (0 : Int32))) (mX7_toolStatement_b59 k0 M13))
set_option maxHeartbeats 4000000 in
set_option maxRecDepth 100000 in
theorem tX7_toolStatement_b50 {p : Program} {l : Launch} {e : Env} {s : State} {m : MethodId} {args : Array Value} {below : List Frame} {meth : Method} {c : Code} {G : GT} {kd : Nat → Nat × Nat} {ad : Nat → Nat} (C : Cx p s m args meth c cX7_toolStatement 3 (some .boolean) RX7 G kd ad) {k0 : Nat} (hk0 : kModel kd k0) {MO : Mem} {vo : Int32}   : ∀ (y1 : Int32) (y2 : Int32) (M : Mem), mX7_toolStatement_b50 k0 y1 y2 M = some (MO, vo) → At p l e (rmO 3 0 0) s m args below meth c 0 0 (MQ below (Qg G kd ad s.heap.size MO (some (.int vo))) args s 0 0 (AS kd ad s.heap.size)) G kd ad 3 50 [] [.int y2, .int y1, .ref (ad k0)] M := by
  intro y1 y2 M hf H locs ls hI hl
  obtain ⟨hx, hb, hml, hr, hown, hts, hlk, hK, hap, hsx⟩ := id C
  unfold mX7_toolStatement_b50 at hf
  refine lv_sipush (v := 9999) hx hb (dc tbX7_toolStatement_k 33 rfl) sp_9999 ?_
  obtain ⟨M13, r12, q11, hf⟩ := cal_s hf
  refine g_callVi hx hb hml hown hts hK hap hsx hI (tX7_number l hk0 q11 H.size) cv_X7_number q_t7_222 rfl rfl ⟨Nat.le_of_ble_eq_true rfl, Nat.le_of_ble_eq_true rfl⟩ hk0.1 (by simp) rfl rfl rfl hl.1 rfl (Nat.le_of_ble_eq_true rfl) (dc tbX7_toolStatement_k 34 rfl) ⟨Nat.le_of_ble_eq_true rfl, Nat.le_of_ble_eq_true rfl⟩ (fun H locs hI => ?_)
  refine lv_if_eq (tgt := 63) hx hb (dc tbX7_toolStatement_k 35 rfl) rfl (fun c14 => ?_) (fun c14 => ?_)
  · have hf := ite_t c14 hf
    refine lv_iconst (v := 0) hx hb (dc tbX7_toolStatement_k 38 rfl) ic_0 ?_
    cases hf
    exact g_zret hx hb hr hlk hI rfl (dc tbX7_toolStatement_k 39 rfl)
  · have hf := ite_f c14 hf
    exact tX7_toolStatement_b59 C hk0 M13 hf _ _ _ hI (lv_sub hl [] rfl)
def mX7_toolStatement (k0 : Nat) (x1 : Int32) (M : Mem) : Option (Mem × Int32) := cal (mX7_advance k0 M) (fun M3 r2 => bnd (((39 : Int32) + ((2 : Int32) * x1))) (fun x2_11 => cal (mX7_number k0 x2_11 (0 : Int32) (9999 : Int32) M3) (fun M7 r6 => ite2 (r6 = 0) (some (M7, (0 : Int32))) (ite2 (x1 = (4 : Int32)) (mX7_toolStatement_b59 k0 M7) (ite2 (x1 = (3 : Int32)) (chk (okb x2_11 86) (mX7_toolStatement_b50 k0 (x2_11 + (1 : Int32)) (rd M7 (k0 + 2) (x2_11).toNatClampNeg) M7)) (mX7_toolStatement_b50 k0 (x2_11 + (1 : Int32)) (0 : Int32) M7))))))
set_option maxHeartbeats 4000000 in
set_option maxRecDepth 100000 in
theorem tX7_toolStatement (l : Launch) {G : GT} {kd : Nat → Nat × Nat} {ad : Nat → Nat} {k0 : Nat} (hk0 : kModel kd k0) {x1 : Int32} {M : Mem} {MO : Mem} {vo : Int32} (hf : mX7_toolStatement k0 x1 M = some (MO, vo)) (n : Nat) : Met l yX7_toolStatement (Cond.code yX7_toolStatement cX7_toolStatement 3 (some .boolean) :: WA) (rmO 3 0 0) (Pg G kd ad n [.ref (ad k0), .int x1] M) (Qg G kd ad n MO (some (.int vo))) 0 0 (AS kd ad n) := by
  refine g_body (own := RX7) (by decide) rfl ?_ (Nat.le_of_ble_eq_true rfl)
  intro p e s m args below meth c C _ H locs ls hI hl
  obtain ⟨hx, hb, hml, hr, hown, hts, hlk, hK, hap, hsx⟩ := id C
  have hl : lv_has ls 3 [(0, .ref (ad k0)), (1, .int x1)] := hl
  unfold mX7_toolStatement at hf
  refine lv_aload_n hx hb (dc tbX7_toolStatement_k 0 rfl) rfl (lv_at hl 0 rfl) ?_
  obtain ⟨M3, r2, q1, hf⟩ := cal_s hf
  refine g_callVi hx hb hml hown hts hK hap hsx hI (tX7_advance l hk0 q1 H.size) cv_X7_advance q_t7_193 rfl rfl ⟨Nat.le_of_ble_eq_true rfl, Nat.le_of_ble_eq_true rfl⟩ hk0.1 (by simp) rfl rfl rfl hl.1 rfl (Nat.le_of_ble_eq_true rfl) (dc tbX7_toolStatement_k 1 rfl) ⟨Nat.le_of_ble_eq_true rfl, Nat.le_of_ble_eq_true rfl⟩ (fun H locs hI => ?_)
  refine lv_pop hx hb (dc tbX7_toolStatement_k 2 rfl) rfl ?_
  refine lv_bipush (v := 39) hx hb (dc tbX7_toolStatement_k 3 rfl) bp_39 ?_
  refine lv_iconst (v := 2) hx hb (dc tbX7_toolStatement_k 4 rfl) ic_2 ?_
  refine lv_iload_n hx hb (dc tbX7_toolStatement_k 5 rfl) rfl (lv_at hl 1 rfl) ?_
  refine lv_imul hx hb (dc tbX7_toolStatement_k 6 rfl) ?_
  refine lv_iadd hx hb (dc tbX7_toolStatement_k 7 rfl) ?_
  obtain ⟨x2_11, e4, hf⟩ := bnd_s hf
  refine lv_ei e4 ?_
  refine lv_istore_n (lv' := [(2, .int x2_11), (0, .ref (ad k0)), (1, .int x1)]) hx hb (dc tbX7_toolStatement_k 8 rfl) rfl hl (by decide) rfl (fun ls hl => ?_)
  refine lv_aload_n hx hb (dc tbX7_toolStatement_k 9 rfl) rfl (lv_at hl 1 rfl) ?_
  refine lv_iload_n hx hb (dc tbX7_toolStatement_k 10 rfl) rfl (lv_at hl 0 rfl) ?_
  refine lv_iconst (v := 0) hx hb (dc tbX7_toolStatement_k 11 rfl) ic_0 ?_
  refine lv_sipush (v := 9999) hx hb (dc tbX7_toolStatement_k 12 rfl) sp_9999 ?_
  obtain ⟨M7, r6, q5, hf⟩ := cal_s hf
  refine g_callVi hx hb hml hown hts hK hap hsx hI (tX7_number l hk0 q5 H.size) cv_X7_number q_t7_222 rfl rfl ⟨Nat.le_of_ble_eq_true rfl, Nat.le_of_ble_eq_true rfl⟩ hk0.1 (by simp) rfl rfl rfl hl.1 rfl (Nat.le_of_ble_eq_true rfl) (dc tbX7_toolStatement_k 13 rfl) ⟨Nat.le_of_ble_eq_true rfl, Nat.le_of_ble_eq_true rfl⟩ (fun H locs hI => ?_)
  refine lv_if_ne (tgt := 26) hx hb (dc tbX7_toolStatement_k 14 rfl) rfl (fun c8 => ?_) (fun c8 => ?_)
  · have hf := ite_f c8 hf
    refine lv_iload_n hx hb (dc tbX7_toolStatement_k 17 rfl) rfl (lv_at hl 2 rfl) ?_
    refine lv_iconst (v := 4) hx hb (dc tbX7_toolStatement_k 18 rfl) ic_4 ?_
    refine lv_icmp_eq (tgt := 59) hx hb (dc tbX7_toolStatement_k 19 rfl) rfl (fun c9 => ?_) (fun c9 => ?_)
    · have hf := ite_t c9 hf
      exact tX7_toolStatement_b59 C hk0 M7 hf _ _ _ hI (lv_sub hl [] rfl)
    · have hf := ite_f c9 hf
      refine lv_aload_n hx hb (dc tbX7_toolStatement_k 20 rfl) rfl (lv_at hl 1 rfl) ?_
      refine lv_iload_n hx hb (dc tbX7_toolStatement_k 21 rfl) rfl (lv_at hl 0 rfl) ?_
      refine lv_iconst (v := 1) hx hb (dc tbX7_toolStatement_k 22 rfl) ic_1 ?_
      refine lv_iadd hx hb (dc tbX7_toolStatement_k 23 rfl) ?_
      refine lv_iload_n hx hb (dc tbX7_toolStatement_k 24 rfl) rfl (lv_at hl 2 rfl) ?_
      refine lv_iconst (v := 3) hx hb (dc tbX7_toolStatement_k 25 rfl) ic_3 ?_
      refine lv_icmp_ne (tgt := 49) hx hb (dc tbX7_toolStatement_k 26 rfl) rfl (fun c10 => ?_) (fun c10 => ?_)
      · have hf := ite_f c10 hf
        refine lv_iconst (v := 0) hx hb (dc tbX7_toolStatement_k 32 rfl) ic_0 ?_
        exact tX7_toolStatement_b50 C hk0 (x2_11 + (1 : Int32)) (0 : Int32) M7 hf _ _ _ hI (lv_sub hl [] rfl)
      · have hf := ite_t c10 hf
        refine lv_aload_n hx hb (dc tbX7_toolStatement_k 27 rfl) rfl (lv_at hl 1 rfl) ?_
        refine gg7_1 hx hb hts hown hK hI hk0.1 q_t7_77 (dc tbX7_toolStatement_k 28 rfl) ?_
        refine lv_iload_n hx hb (dc tbX7_toolStatement_k 29 rfl) rfl (lv_at hl 0 rfl) ?_
        obtain ⟨h15, hf⟩ := chk_s hf
        refine g_iald hx hb hK hI hk0.2.2.1 (okb_in h15) (dc tbX7_toolStatement_k 30 rfl) ?_
        refine lv_goto (tgt := 50) hx hb (dc tbX7_toolStatement_k 31 rfl) rfl ?_
        exact tX7_toolStatement_b50 C hk0 (x2_11 + (1 : Int32)) (rd M7 (k0 + 2) (x2_11).toNatClampNeg) M7 hf _ _ _ hI (lv_sub hl [] rfl)
  · have hf := ite_t c8 hf
    refine lv_iconst (v := 0) hx hb (dc tbX7_toolStatement_k 15 rfl) ic_0 ?_
    cases hf
    exact g_zret hx hb hr hlk hI rfl (dc tbX7_toolStatement_k 16 rfl)
theorem cv_X7_toolStatement : cvF RX7 yX7_toolStatement cX7_toolStatement 3 (some .boolean) 1 := ⟨q_t8_22, q_s4_2, q_t1_11, q_t8_23, by decide +kernel⟩
def mX7_costStatement (k0 : Nat) (M : Mem) : Option (Mem × Int32) := cal (mX7_advance k0 M) (fun M3 r2 => cal (mX7_number k0 (49 : Int32) (0 : Int32) (99 : Int32) M3) (fun M6 r5 => ite2 (r5 = 0) (some (M6, (0 : Int32))) (cal (mX7_number k0 (50 : Int32) (0 : Int32) (99 : Int32) M6) (fun M10 r9 => ite2 (r9 = 0) (some (M10, (0 : Int32))) (cal (mX7_number k0 (51 : Int32) (0 : Int32) (99 : Int32) M10) (fun M14 r13 => ite2 (r13 = 0) (some (M14, (0 : Int32))) (some (M14, (1 : Int32)))))))))
set_option maxHeartbeats 4000000 in
set_option maxRecDepth 100000 in
theorem tX7_costStatement (l : Launch) {G : GT} {kd : Nat → Nat × Nat} {ad : Nat → Nat} {k0 : Nat} (hk0 : kModel kd k0) {M : Mem} {MO : Mem} {vo : Int32} (hf : mX7_costStatement k0 M = some (MO, vo)) (n : Nat) : Met l yX7_costStatement (Cond.code yX7_costStatement cX7_costStatement 1 (some .boolean) :: WA) (rmO 3 0 0) (Pg G kd ad n [.ref (ad k0)] M) (Qg G kd ad n MO (some (.int vo))) 0 0 (AS kd ad n) := by
  refine g_body (own := RX7) (by decide) rfl ?_ (Nat.le_of_ble_eq_true rfl)
  intro p e s m args below meth c C _ H locs ls hI hl
  obtain ⟨hx, hb, hml, hr, hown, hts, hlk, hK, hap, hsx⟩ := id C
  have hl : lv_has ls 1 [(0, .ref (ad k0))] := hl
  unfold mX7_costStatement at hf
  refine lv_aload_n hx hb (dc tbX7_costStatement_k 0 rfl) rfl (lv_at hl 0 rfl) ?_
  obtain ⟨M3, r2, q1, hf⟩ := cal_s hf
  refine g_callVi hx hb hml hown hts hK hap hsx hI (tX7_advance l hk0 q1 H.size) cv_X7_advance q_t7_193 rfl rfl ⟨Nat.le_of_ble_eq_true rfl, Nat.le_of_ble_eq_true rfl⟩ hk0.1 (by simp) rfl rfl rfl hl.1 rfl (Nat.le_of_ble_eq_true rfl) (dc tbX7_costStatement_k 1 rfl) ⟨Nat.le_of_ble_eq_true rfl, Nat.le_of_ble_eq_true rfl⟩ (fun H locs hI => ?_)
  refine lv_pop hx hb (dc tbX7_costStatement_k 2 rfl) rfl ?_
  refine lv_aload_n hx hb (dc tbX7_costStatement_k 3 rfl) rfl (lv_at hl 0 rfl) ?_
  refine lv_bipush (v := 49) hx hb (dc tbX7_costStatement_k 4 rfl) bp_49 ?_
  refine lv_iconst (v := 0) hx hb (dc tbX7_costStatement_k 5 rfl) ic_0 ?_
  refine lv_bipush (v := 99) hx hb (dc tbX7_costStatement_k 6 rfl) bp_99 ?_
  obtain ⟨M6, r5, q4, hf⟩ := cal_s hf
  refine g_callVi hx hb hml hown hts hK hap hsx hI (tX7_number l hk0 q4 H.size) cv_X7_number q_t7_222 rfl rfl ⟨Nat.le_of_ble_eq_true rfl, Nat.le_of_ble_eq_true rfl⟩ hk0.1 (by simp) rfl rfl rfl hl.1 rfl (Nat.le_of_ble_eq_true rfl) (dc tbX7_costStatement_k 7 rfl) ⟨Nat.le_of_ble_eq_true rfl, Nat.le_of_ble_eq_true rfl⟩ (fun H locs hI => ?_)
  refine lv_if_eq (tgt := 45) hx hb (dc tbX7_costStatement_k 8 rfl) rfl (fun c7 => ?_) (fun c7 => ?_)
  · have hf := ite_t c7 hf
    refine lv_iconst (v := 0) hx hb (dc tbX7_costStatement_k 23 rfl) ic_0 ?_
    cases hf
    exact g_zret hx hb hr hlk hI rfl (dc tbX7_costStatement_k 24 rfl)
  · have hf := ite_f c7 hf
    refine lv_aload_n hx hb (dc tbX7_costStatement_k 9 rfl) rfl (lv_at hl 0 rfl) ?_
    refine lv_bipush (v := 50) hx hb (dc tbX7_costStatement_k 10 rfl) bp_50 ?_
    refine lv_iconst (v := 0) hx hb (dc tbX7_costStatement_k 11 rfl) ic_0 ?_
    refine lv_bipush (v := 99) hx hb (dc tbX7_costStatement_k 12 rfl) bp_99 ?_
    obtain ⟨M10, r9, q8, hf⟩ := cal_s hf
    refine g_callVi hx hb hml hown hts hK hap hsx hI (tX7_number l hk0 q8 H.size) cv_X7_number q_t7_222 rfl rfl ⟨Nat.le_of_ble_eq_true rfl, Nat.le_of_ble_eq_true rfl⟩ hk0.1 (by simp) rfl rfl rfl hl.1 rfl (Nat.le_of_ble_eq_true rfl) (dc tbX7_costStatement_k 13 rfl) ⟨Nat.le_of_ble_eq_true rfl, Nat.le_of_ble_eq_true rfl⟩ (fun H locs hI => ?_)
    refine lv_if_eq (tgt := 45) hx hb (dc tbX7_costStatement_k 14 rfl) rfl (fun c11 => ?_) (fun c11 => ?_)
    · have hf := ite_t c11 hf
      refine lv_iconst (v := 0) hx hb (dc tbX7_costStatement_k 23 rfl) ic_0 ?_
      cases hf
      exact g_zret hx hb hr hlk hI rfl (dc tbX7_costStatement_k 24 rfl)
    · have hf := ite_f c11 hf
      refine lv_aload_n hx hb (dc tbX7_costStatement_k 15 rfl) rfl (lv_at hl 0 rfl) ?_
      refine lv_bipush (v := 51) hx hb (dc tbX7_costStatement_k 16 rfl) bp_51 ?_
      refine lv_iconst (v := 0) hx hb (dc tbX7_costStatement_k 17 rfl) ic_0 ?_
      refine lv_bipush (v := 99) hx hb (dc tbX7_costStatement_k 18 rfl) bp_99 ?_
      obtain ⟨M14, r13, q12, hf⟩ := cal_s hf
      refine g_callVi hx hb hml hown hts hK hap hsx hI (tX7_number l hk0 q12 H.size) cv_X7_number q_t7_222 rfl rfl ⟨Nat.le_of_ble_eq_true rfl, Nat.le_of_ble_eq_true rfl⟩ hk0.1 (by simp) rfl rfl rfl hl.1 rfl (Nat.le_of_ble_eq_true rfl) (dc tbX7_costStatement_k 19 rfl) ⟨Nat.le_of_ble_eq_true rfl, Nat.le_of_ble_eq_true rfl⟩ (fun H locs hI => ?_)
      refine lv_if_eq (tgt := 45) hx hb (dc tbX7_costStatement_k 20 rfl) rfl (fun c15 => ?_) (fun c15 => ?_)
      · have hf := ite_t c15 hf
        refine lv_iconst (v := 0) hx hb (dc tbX7_costStatement_k 23 rfl) ic_0 ?_
        cases hf
        exact g_zret hx hb hr hlk hI rfl (dc tbX7_costStatement_k 24 rfl)
      · have hf := ite_f c15 hf
        refine lv_iconst (v := 1) hx hb (dc tbX7_costStatement_k 21 rfl) ic_1 ?_
        refine lv_goto (tgt := 46) hx hb (dc tbX7_costStatement_k 22 rfl) rfl ?_
        cases hf
        exact g_zret hx hb hr hlk hI rfl (dc tbX7_costStatement_k 24 rfl)
theorem cv_X7_costStatement : cvF RX7 yX7_costStatement cX7_costStatement 1 (some .boolean) 0 := ⟨q_t8_9, q_s4_0, q_t1_11, q_t8_10, by decide +kernel⟩
def mX7_toolHere (k0 : Nat) (M : Mem) : Option Int32 := cap (mX7_isWord k0 5 M) (fun r2 => ite2 (r2 = 0) (cap (mX7_isWord k0 6 M) (fun r6 => ite2 (r6 = 0) (cap (mX7_isWord k0 7 M) (fun r10 => ite2 (r10 = 0) (cap (mX7_isWord k0 8 M) (fun r14 => ite2 (r14 = 0) (cap (mX7_isWord k0 9 M) (fun r18 => ite2 (r18 = 0) (some (-1 : Int32)) (some (4 : Int32)))) (some (3 : Int32)))) (some (2 : Int32)))) (some (1 : Int32)))) (some (0 : Int32)))
set_option maxHeartbeats 4000000 in
set_option maxRecDepth 100000 in
theorem tX7_toolHere (l : Launch) {G : GT} {kd : Nat → Nat × Nat} {ad : Nat → Nat} {k0 : Nat} (hk0 : kModel kd k0) {M : Mem} {vo : Int32} (hf : mX7_toolHere k0 M = some vo) (n : Nat) : Met l yX7_toolHere (Cond.code yX7_toolHere cX7_toolHere 1 (some .int) :: WA) (rmO 5 0 0) (Pg G kd ad n [.ref (ad k0)] M) (Qg G kd ad n M (some (.int vo))) 0 0 (AS kd ad n) := by
  refine g_body (own := RX7) (by decide) rfl ?_ (Nat.le_of_ble_eq_true rfl)
  intro p e s m args below meth c C _ H locs ls hI hl
  obtain ⟨hx, hb, hml, hr, hown, hts, hlk, hK, hap, hsx⟩ := id C
  have hl : lv_has ls 1 [(0, .ref (ad k0))] := hl
  unfold mX7_toolHere at hf
  refine lv_aload_n hx hb (dc tbX7_toolHere_k 0 rfl) rfl (lv_at hl 0 rfl) ?_
  refine g_ldcS (List.mem_of_getElem? (i := 1) rfl) hx hb hown hsx (dc tbX7_toolHere_k 1 rfl) ?_
  obtain ⟨r2, q1, hf⟩ := cap_s hf
  refine g_callVi hx hb hml hown hts hK hap hsx hI (tX7_isWord l hk0 (by decide) q1 H.size) cv_X7_isWord q_t7_212 rfl rfl ⟨Nat.le_of_ble_eq_true rfl, Nat.le_of_ble_eq_true rfl⟩ hk0.1 (by simp) rfl rfl rfl hl.1 rfl (Nat.le_of_ble_eq_true rfl) (dc tbX7_toolHere_k 2 rfl) ⟨Nat.le_of_ble_eq_true rfl, Nat.le_of_ble_eq_true rfl⟩ (fun H locs hI => ?_)
  refine lv_if_eq (tgt := 11) hx hb (dc tbX7_toolHere_k 3 rfl) rfl (fun c4 => ?_) (fun c4 => ?_)
  · have hf := ite_t c4 hf
    refine lv_aload_n hx hb (dc tbX7_toolHere_k 6 rfl) rfl (lv_at hl 0 rfl) ?_
    refine g_ldcS (List.mem_of_getElem? (i := 2) rfl) hx hb hown hsx (dc tbX7_toolHere_k 7 rfl) ?_
    obtain ⟨r6, q5, hf⟩ := cap_s hf
    refine g_callVi hx hb hml hown hts hK hap hsx hI (tX7_isWord l hk0 (by decide) q5 H.size) cv_X7_isWord q_t7_212 rfl rfl ⟨Nat.le_of_ble_eq_true rfl, Nat.le_of_ble_eq_true rfl⟩ hk0.1 (by simp) rfl rfl rfl hl.1 rfl (Nat.le_of_ble_eq_true rfl) (dc tbX7_toolHere_k 8 rfl) ⟨Nat.le_of_ble_eq_true rfl, Nat.le_of_ble_eq_true rfl⟩ (fun H locs hI => ?_)
    refine lv_if_eq (tgt := 22) hx hb (dc tbX7_toolHere_k 9 rfl) rfl (fun c8 => ?_) (fun c8 => ?_)
    · have hf := ite_t c8 hf
      refine lv_aload_n hx hb (dc tbX7_toolHere_k 12 rfl) rfl (lv_at hl 0 rfl) ?_
      refine g_ldcS (List.mem_of_getElem? (i := 3) rfl) hx hb hown hsx (dc tbX7_toolHere_k 13 rfl) ?_
      obtain ⟨r10, q9, hf⟩ := cap_s hf
      refine g_callVi hx hb hml hown hts hK hap hsx hI (tX7_isWord l hk0 (by decide) q9 H.size) cv_X7_isWord q_t7_212 rfl rfl ⟨Nat.le_of_ble_eq_true rfl, Nat.le_of_ble_eq_true rfl⟩ hk0.1 (by simp) rfl rfl rfl hl.1 rfl (Nat.le_of_ble_eq_true rfl) (dc tbX7_toolHere_k 14 rfl) ⟨Nat.le_of_ble_eq_true rfl, Nat.le_of_ble_eq_true rfl⟩ (fun H locs hI => ?_)
      refine lv_if_eq (tgt := 33) hx hb (dc tbX7_toolHere_k 15 rfl) rfl (fun c12 => ?_) (fun c12 => ?_)
      · have hf := ite_t c12 hf
        refine lv_aload_n hx hb (dc tbX7_toolHere_k 18 rfl) rfl (lv_at hl 0 rfl) ?_
        refine g_ldcS (List.mem_of_getElem? (i := 4) rfl) hx hb hown hsx (dc tbX7_toolHere_k 19 rfl) ?_
        obtain ⟨r14, q13, hf⟩ := cap_s hf
        refine g_callVi hx hb hml hown hts hK hap hsx hI (tX7_isWord l hk0 (by decide) q13 H.size) cv_X7_isWord q_t7_212 rfl rfl ⟨Nat.le_of_ble_eq_true rfl, Nat.le_of_ble_eq_true rfl⟩ hk0.1 (by simp) rfl rfl rfl hl.1 rfl (Nat.le_of_ble_eq_true rfl) (dc tbX7_toolHere_k 20 rfl) ⟨Nat.le_of_ble_eq_true rfl, Nat.le_of_ble_eq_true rfl⟩ (fun H locs hI => ?_)
        refine lv_if_eq (tgt := 44) hx hb (dc tbX7_toolHere_k 21 rfl) rfl (fun c16 => ?_) (fun c16 => ?_)
        · have hf := ite_t c16 hf
          refine lv_aload_n hx hb (dc tbX7_toolHere_k 24 rfl) rfl (lv_at hl 0 rfl) ?_
          refine g_ldcS (List.mem_of_getElem? (i := 5) rfl) hx hb hown hsx (dc tbX7_toolHere_k 25 rfl) ?_
          obtain ⟨r18, q17, hf⟩ := cap_s hf
          refine g_callVi hx hb hml hown hts hK hap hsx hI (tX7_isWord l hk0 (by decide) q17 H.size) cv_X7_isWord q_t7_212 rfl rfl ⟨Nat.le_of_ble_eq_true rfl, Nat.le_of_ble_eq_true rfl⟩ hk0.1 (by simp) rfl rfl rfl hl.1 rfl (Nat.le_of_ble_eq_true rfl) (dc tbX7_toolHere_k 26 rfl) ⟨Nat.le_of_ble_eq_true rfl, Nat.le_of_ble_eq_true rfl⟩ (fun H locs hI => ?_)
          refine lv_if_eq (tgt := 57) hx hb (dc tbX7_toolHere_k 27 rfl) rfl (fun c20 => ?_) (fun c20 => ?_)
          · have hf := ite_t c20 hf
            refine lv_iconst (v := -1) hx hb (dc tbX7_toolHere_k 30 rfl) ic_m1 ?_
            cases hf
            exact g_iret hx hb hr hlk hI (dc tbX7_toolHere_k 31 rfl)
          · have hf := ite_f c20 hf
            refine lv_iconst (v := 4) hx hb (dc tbX7_toolHere_k 28 rfl) ic_4 ?_
            refine lv_goto (tgt := 58) hx hb (dc tbX7_toolHere_k 29 rfl) rfl ?_
            cases hf
            exact g_iret hx hb hr hlk hI (dc tbX7_toolHere_k 31 rfl)
        · have hf := ite_f c16 hf
          refine lv_iconst (v := 3) hx hb (dc tbX7_toolHere_k 22 rfl) ic_3 ?_
          cases hf
          exact g_iret hx hb hr hlk hI (dc tbX7_toolHere_k 23 rfl)
      · have hf := ite_f c12 hf
        refine lv_iconst (v := 2) hx hb (dc tbX7_toolHere_k 16 rfl) ic_2 ?_
        cases hf
        exact g_iret hx hb hr hlk hI (dc tbX7_toolHere_k 17 rfl)
    · have hf := ite_f c8 hf
      refine lv_iconst (v := 1) hx hb (dc tbX7_toolHere_k 10 rfl) ic_1 ?_
      cases hf
      exact g_iret hx hb hr hlk hI (dc tbX7_toolHere_k 11 rfl)
  · have hf := ite_f c4 hf
    refine lv_iconst (v := 0) hx hb (dc tbX7_toolHere_k 4 rfl) ic_0 ?_
    cases hf
    exact g_iret hx hb hr hlk hI (dc tbX7_toolHere_k 5 rfl)
theorem cv_X7_toolHere : cvF RX7 yX7_toolHere cX7_toolHere 1 (some .int) 0 := ⟨q_t8_13, q_s4_1, q_t1_11, q_t8_14, by decide +kernel⟩
def mX7_statement_b46 (k0 : Nat) (M : Mem) : Option (Mem × Int32) := cap (mX7_isWord k0 2 M) (fun r14 => cal (mX7_bendStatement k0 r14 M) (fun M18 r17 => chk (isB r17) (some (M18, r17))))
set_option maxHeartbeats 4000000 in
set_option maxRecDepth 100000 in
theorem tX7_statement_b46 {p : Program} {l : Launch} {e : Env} {s : State} {m : MethodId} {args : Array Value} {below : List Frame} {meth : Method} {c : Code} {G : GT} {kd : Nat → Nat × Nat} {ad : Nat → Nat} (C : Cx p s m args meth c cX7_statement 2 (some .boolean) RX7 G kd ad) {k0 : Nat} (hk0 : kModel kd k0) {MO : Mem} {vo : Int32}   : ∀  (M : Mem), mX7_statement_b46 k0 M = some (MO, vo) → At p l e (rmO 6 0 0) s m args below meth c 0 0 (MQ below (Qg G kd ad s.heap.size MO (some (.int vo))) args s 0 0 (AS kd ad s.heap.size)) G kd ad 2 46 [(0, .ref (ad k0))] [] M := by
  intro M hf H locs ls hI hl
  obtain ⟨hx, hb, hml, hr, hown, hts, hlk, hK, hap, hsx⟩ := id C
  unfold mX7_statement_b46 at hf
  refine lv_aload_n hx hb (dc tbX7_statement_0_k 22 rfl) rfl (lv_at hl 0 rfl) ?_
  refine lv_aload_n hx hb (dc tbX7_statement_0_k 23 rfl) rfl (lv_at hl 0 rfl) ?_
  refine g_ldcS (List.mem_of_getElem? (i := 8) rfl) hx hb hown hsx (dc tbX7_statement_0_k 24 rfl) ?_
  obtain ⟨r14, q13, hf⟩ := cap_s hf
  refine g_callVi hx hb hml hown hts hK hap hsx hI (tX7_isWord l hk0 (by decide) q13 H.size) cv_X7_isWord q_t7_212 rfl rfl ⟨Nat.le_of_ble_eq_true rfl, Nat.le_of_ble_eq_true rfl⟩ hk0.1 (by simp) rfl rfl rfl hl.1 rfl (Nat.le_of_ble_eq_true rfl) (dc tbX7_statement_0_k 25 rfl) ⟨Nat.le_of_ble_eq_true rfl, Nat.le_of_ble_eq_true rfl⟩ (fun H locs hI => ?_)
  obtain ⟨M18, r17, q16, hf⟩ := cal_s hf
  refine g_callVi hx hb hml hown hts hK hap hsx hI (tX7_bendStatement l hk0 q16 H.size) cv_X7_bendStatement q_t7_237 rfl rfl ⟨Nat.le_of_ble_eq_true rfl, Nat.le_of_ble_eq_true rfl⟩ hk0.1 (by simp) rfl rfl rfl hl.1 rfl (Nat.le_of_ble_eq_true rfl) (dc tbX7_statement_0_k 26 rfl) ⟨Nat.le_of_ble_eq_true rfl, Nat.le_of_ble_eq_true rfl⟩ (fun H locs hI => ?_)
  obtain ⟨h19, hf⟩ := chk_s hf
  cases hf
  exact g_zret hx hb hr hlk hI (isB_n h19) (dc tbX7_statement_0_k 27 rfl)
def mX7_statement (k0 : Nat) (M : Mem) : Option (Mem × Int32) := cap (mX7_isWord k0 0 M) (fun r2 => ite2 (r2 = 0) (cap (mX7_isWord k0 1 M) (fun r6 => ite2 (r6 = 0) (cap (mX7_isWord k0 2 M) (fun r10 => ite2 (r10 = 0) (cap (mX7_isWord k0 3 M) (fun r21 => ite2 (r21 = 0) (cap (mX7_isWord k0 4 M) (fun r25 => ite2 (r25 = 0) (cap (mX7_isWord k0 10 M) (fun r29 => ite2 (r29 = 0) (cap (mX7_toolHere k0 M) (fun r33 => ite2 (r33 = (-1 : Int32)) (cal (mX7_fail k0 (2 : Int32) M) (fun M42 r41 => chk (isB r41) (some (M42, r41)))) (cal (mX7_toolStatement k0 r33 M) (fun M38 r37 => chk (isB r37) (some (M38, r37)))))) (cal (mX7_costStatement k0 M) (fun M46 r45 => chk (isB r45) (some (M46, r45)))))) (cal (mX7_backStatement k0 M) (fun M50 r49 => chk (isB r49) (some (M50, r49)))))) (mX7_statement_b46 k0 M))) (mX7_statement_b46 k0 M))) (cal (mX7_legStatement k0 M) (fun M54 r53 => chk (isB r53) (some (M54, r53)))))) (cal (mX7_sheetStatement k0 M) (fun M58 r57 => chk (isB r57) (some (M58, r57)))))
set_option maxHeartbeats 4000000 in
set_option maxRecDepth 100000 in
theorem tX7_statement (l : Launch) {G : GT} {kd : Nat → Nat × Nat} {ad : Nat → Nat} {k0 : Nat} (hk0 : kModel kd k0) {M : Mem} {MO : Mem} {vo : Int32} (hf : mX7_statement k0 M = some (MO, vo)) (n : Nat) : Met l yX7_statement (Cond.code yX7_statement cX7_statement 2 (some .boolean) :: WA) (rmO 6 0 0) (Pg G kd ad n [.ref (ad k0)] M) (Qg G kd ad n MO (some (.int vo))) 0 0 (AS kd ad n) := by
  refine g_body (own := RX7) (by decide) rfl ?_ (Nat.le_of_ble_eq_true rfl)
  intro p e s m args below meth c C _ H locs ls hI hl
  obtain ⟨hx, hb, hml, hr, hown, hts, hlk, hK, hap, hsx⟩ := id C
  have hl : lv_has ls 2 [(0, .ref (ad k0))] := hl
  unfold mX7_statement at hf
  refine lv_aload_n hx hb (dc tbX7_statement_0_k 0 rfl) rfl (lv_at hl 0 rfl) ?_
  refine g_ldcS (List.mem_of_getElem? (i := 6) rfl) hx hb hown hsx (dc tbX7_statement_0_k 1 rfl) ?_
  obtain ⟨r2, q1, hf⟩ := cap_s hf
  refine g_callVi hx hb hml hown hts hK hap hsx hI (tX7_isWord l hk0 (by decide) q1 H.size) cv_X7_isWord q_t7_212 rfl rfl ⟨Nat.le_of_ble_eq_true rfl, Nat.le_of_ble_eq_true rfl⟩ hk0.1 (by simp) rfl rfl rfl hl.1 rfl (Nat.le_of_ble_eq_true rfl) (dc tbX7_statement_0_k 2 rfl) ⟨Nat.le_of_ble_eq_true rfl, Nat.le_of_ble_eq_true rfl⟩ (fun H locs hI => ?_)
  refine lv_if_eq (tgt := 14) hx hb (dc tbX7_statement_0_k 3 rfl) rfl (fun c4 => ?_) (fun c4 => ?_)
  · have hf := ite_t c4 hf
    refine lv_aload_n hx hb (dc tbX7_statement_0_k 7 rfl) rfl (lv_at hl 0 rfl) ?_
    refine g_ldcS (List.mem_of_getElem? (i := 7) rfl) hx hb hown hsx (dc tbX7_statement_0_k 8 rfl) ?_
    obtain ⟨r6, q5, hf⟩ := cap_s hf
    refine g_callVi hx hb hml hown hts hK hap hsx hI (tX7_isWord l hk0 (by decide) q5 H.size) cv_X7_isWord q_t7_212 rfl rfl ⟨Nat.le_of_ble_eq_true rfl, Nat.le_of_ble_eq_true rfl⟩ hk0.1 (by simp) rfl rfl rfl hl.1 rfl (Nat.le_of_ble_eq_true rfl) (dc tbX7_statement_0_k 9 rfl) ⟨Nat.le_of_ble_eq_true rfl, Nat.le_of_ble_eq_true rfl⟩ (fun H locs hI => ?_)
    refine lv_if_eq (tgt := 28) hx hb (dc tbX7_statement_0_k 10 rfl) rfl (fun c8 => ?_) (fun c8 => ?_)
    · have hf := ite_t c8 hf
      refine lv_aload_n hx hb (dc tbX7_statement_0_k 14 rfl) rfl (lv_at hl 0 rfl) ?_
      refine g_ldcS (List.mem_of_getElem? (i := 8) rfl) hx hb hown hsx (dc tbX7_statement_0_k 15 rfl) ?_
      obtain ⟨r10, q9, hf⟩ := cap_s hf
      refine g_callVi hx hb hml hown hts hK hap hsx hI (tX7_isWord l hk0 (by decide) q9 H.size) cv_X7_isWord q_t7_212 rfl rfl ⟨Nat.le_of_ble_eq_true rfl, Nat.le_of_ble_eq_true rfl⟩ hk0.1 (by simp) rfl rfl rfl hl.1 rfl (Nat.le_of_ble_eq_true rfl) (dc tbX7_statement_0_k 16 rfl) ⟨Nat.le_of_ble_eq_true rfl, Nat.le_of_ble_eq_true rfl⟩ (fun H locs hI => ?_)
      refine lv_if_ne (tgt := 46) hx hb (dc tbX7_statement_0_k 17 rfl) rfl (fun c12 => ?_) (fun c12 => ?_)
      · have hf := ite_f c12 hf
        exact tX7_statement_b46 C hk0 M hf _ _ _ hI (lv_sub hl [0] rfl)
      · have hf := ite_t c12 hf
        refine lv_aload_n hx hb (dc tbX7_statement_0_k 18 rfl) rfl (lv_at hl 0 rfl) ?_
        refine g_ldcS (List.mem_of_getElem? (i := 9) rfl) hx hb hown hsx (dc tbX7_statement_0_k 19 rfl) ?_
        obtain ⟨r21, q20, hf⟩ := cap_s hf
        refine g_callVi hx hb hml hown hts hK hap hsx hI (tX7_isWord l hk0 (by decide) q20 H.size) cv_X7_isWord q_t7_212 rfl rfl ⟨Nat.le_of_ble_eq_true rfl, Nat.le_of_ble_eq_true rfl⟩ hk0.1 (by simp) rfl rfl rfl hl.1 rfl (Nat.le_of_ble_eq_true rfl) (dc tbX7_statement_0_k 20 rfl) ⟨Nat.le_of_ble_eq_true rfl, Nat.le_of_ble_eq_true rfl⟩ (fun H locs hI => ?_)
        refine lv_if_eq (tgt := 57) hx hb (dc tbX7_statement_0_k 21 rfl) rfl (fun c23 => ?_) (fun c23 => ?_)
        · have hf := ite_t c23 hf
          refine lv_aload_n hx hb (dc tbX7_statement_0_k 28 rfl) rfl (lv_at hl 0 rfl) ?_
          refine g_ldcS (List.mem_of_getElem? (i := 10) rfl) hx hb hown hsx (dc tbX7_statement_0_k 29 rfl) ?_
          obtain ⟨r25, q24, hf⟩ := cap_s hf
          refine g_callVi hx hb hml hown hts hK hap hsx hI (tX7_isWord l hk0 (by decide) q24 H.size) cv_X7_isWord q_t7_212 rfl rfl ⟨Nat.le_of_ble_eq_true rfl, Nat.le_of_ble_eq_true rfl⟩ hk0.1 (by simp) rfl rfl rfl hl.1 rfl (Nat.le_of_ble_eq_true rfl) (dc tbX7_statement_0_k 30 rfl) ⟨Nat.le_of_ble_eq_true rfl, Nat.le_of_ble_eq_true rfl⟩ (fun H locs hI => ?_)
          refine lv_if_eq (tgt := 71) hx hb (dc tbX7_statement_0_k 31 rfl) rfl (fun c27 => ?_) (fun c27 => ?_)
          · have hf := ite_t c27 hf
            refine lv_aload_n hx hb (dc tbX7_statement_0_k 35 rfl) rfl (lv_at hl 0 rfl) ?_
            refine g_ldcS (List.mem_of_getElem? (i := 11) rfl) hx hb hown hsx (dc tbX7_statement_0_k 36 rfl) ?_
            obtain ⟨r29, q28, hf⟩ := cap_s hf
            refine g_callVi hx hb hml hown hts hK hap hsx hI (tX7_isWord l hk0 (by decide) q28 H.size) cv_X7_isWord q_t7_212 rfl rfl ⟨Nat.le_of_ble_eq_true rfl, Nat.le_of_ble_eq_true rfl⟩ hk0.1 (by simp) rfl rfl rfl hl.1 rfl (Nat.le_of_ble_eq_true rfl) (dc tbX7_statement_0_k 37 rfl) ⟨Nat.le_of_ble_eq_true rfl, Nat.le_of_ble_eq_true rfl⟩ (fun H locs hI => ?_)
            refine lv_if_eq (tgt := 85) hx hb (dc tbX7_statement_0_k 38 rfl) rfl (fun c31 => ?_) (fun c31 => ?_)
            · have hf := ite_t c31 hf
              refine lv_aload_n hx hb (dc tbX7_statement_1_k 2 rfl) rfl (lv_at hl 0 rfl) ?_
              obtain ⟨r33, q32, hf⟩ := cap_s hf
              refine g_callVi hx hb hml hown hts hK hap hsx hI (tX7_toolHere l hk0 q32 H.size) cv_X7_toolHere q_t8_11 rfl rfl ⟨Nat.le_of_ble_eq_true rfl, Nat.le_of_ble_eq_true rfl⟩ hk0.1 (by simp) rfl rfl rfl hl.1 rfl (Nat.le_of_ble_eq_true rfl) (dc tbX7_statement_1_k 3 rfl) ⟨Nat.le_of_ble_eq_true rfl, Nat.le_of_ble_eq_true rfl⟩ (fun H locs hI => ?_)
              refine lv_istore_n (lv' := [(1, .int r33), (0, .ref (ad k0))]) hx hb (dc tbX7_statement_1_k 4 rfl) rfl hl (by decide) rfl (fun ls hl => ?_)
              refine lv_iload_n hx hb (dc tbX7_statement_1_k 5 rfl) rfl (lv_at hl 0 rfl) ?_
              refine lv_iconst (v := -1) hx hb (dc tbX7_statement_1_k 6 rfl) ic_m1 ?_
              refine lv_icmp_ne (tgt := 103) hx hb (dc tbX7_statement_1_k 7 rfl) rfl (fun c35 => ?_) (fun c35 => ?_)
              · have hf := ite_f c35 hf
                refine lv_aload_n hx hb (dc tbX7_statement_1_k 12 rfl) rfl (lv_at hl 1 rfl) ?_
                refine lv_iload_n hx hb (dc tbX7_statement_1_k 13 rfl) rfl (lv_at hl 0 rfl) ?_
                obtain ⟨M38, r37, q36, hf⟩ := cal_s hf
                refine g_callVi hx hb hml hown hts hK hap hsx hI (tX7_toolStatement l hk0 q36 H.size) cv_X7_toolStatement q_t8_20 rfl rfl ⟨Nat.le_of_ble_eq_true rfl, Nat.le_of_ble_eq_true rfl⟩ hk0.1 (by simp) rfl rfl rfl hl.1 rfl (Nat.le_of_ble_eq_true rfl) (dc tbX7_statement_1_k 14 rfl) ⟨Nat.le_of_ble_eq_true rfl, Nat.le_of_ble_eq_true rfl⟩ (fun H locs hI => ?_)
                obtain ⟨h39, hf⟩ := chk_s hf
                cases hf
                exact g_zret hx hb hr hlk hI (isB_n h39) (dc tbX7_statement_1_k 15 rfl)
              · have hf := ite_t c35 hf
                refine lv_aload_n hx hb (dc tbX7_statement_1_k 8 rfl) rfl (lv_at hl 1 rfl) ?_
                refine lv_iconst (v := 2) hx hb (dc tbX7_statement_1_k 9 rfl) ic_2 ?_
                obtain ⟨M42, r41, q40, hf⟩ := cal_s hf
                refine g_callVi hx hb hml hown hts hK hap hsx hI (tX7_fail l hk0 q40 H.size) cv_X7_fail q_t7_226 rfl rfl ⟨Nat.le_of_ble_eq_true rfl, Nat.le_of_ble_eq_true rfl⟩ hk0.1 (by simp) rfl rfl rfl hl.1 rfl (Nat.le_of_ble_eq_true rfl) (dc tbX7_statement_1_k 10 rfl) ⟨Nat.le_of_ble_eq_true rfl, Nat.le_of_ble_eq_true rfl⟩ (fun H locs hI => ?_)
                refine lv_goto (tgt := 108) hx hb (dc tbX7_statement_1_k 11 rfl) rfl ?_
                obtain ⟨h43, hf⟩ := chk_s hf
                cases hf
                exact g_zret hx hb hr hlk hI (isB_n h43) (dc tbX7_statement_1_k 15 rfl)
            · have hf := ite_f c31 hf
              refine lv_aload_n hx hb (dc tbX7_statement_0_k 39 rfl) rfl (lv_at hl 0 rfl) ?_
              obtain ⟨M46, r45, q44, hf⟩ := cal_s hf
              refine g_callVi hx hb hml hown hts hK hap hsx hI (tX7_costStatement l hk0 q44 H.size) cv_X7_costStatement q_t8_7 rfl rfl ⟨Nat.le_of_ble_eq_true rfl, Nat.le_of_ble_eq_true rfl⟩ hk0.1 (by simp) rfl rfl rfl hl.1 rfl (Nat.le_of_ble_eq_true rfl) (dc tbX7_statement_1_k 0 rfl) ⟨Nat.le_of_ble_eq_true rfl, Nat.le_of_ble_eq_true rfl⟩ (fun H locs hI => ?_)
              obtain ⟨h47, hf⟩ := chk_s hf
              cases hf
              exact g_zret hx hb hr hlk hI (isB_n h47) (dc tbX7_statement_1_k 1 rfl)
          · have hf := ite_f c27 hf
            refine lv_aload_n hx hb (dc tbX7_statement_0_k 32 rfl) rfl (lv_at hl 0 rfl) ?_
            obtain ⟨M50, r49, q48, hf⟩ := cal_s hf
            refine g_callVi hx hb hml hown hts hK hap hsx hI (tX7_backStatement l hk0 q48 H.size) cv_X7_backStatement q_t8_2 rfl rfl ⟨Nat.le_of_ble_eq_true rfl, Nat.le_of_ble_eq_true rfl⟩ hk0.1 (by simp) rfl rfl rfl hl.1 rfl (Nat.le_of_ble_eq_true rfl) (dc tbX7_statement_0_k 33 rfl) ⟨Nat.le_of_ble_eq_true rfl, Nat.le_of_ble_eq_true rfl⟩ (fun H locs hI => ?_)
            obtain ⟨h51, hf⟩ := chk_s hf
            cases hf
            exact g_zret hx hb hr hlk hI (isB_n h51) (dc tbX7_statement_0_k 34 rfl)
        · have hf := ite_f c23 hf
          exact tX7_statement_b46 C hk0 M hf _ _ _ hI (lv_sub hl [0] rfl)
    · have hf := ite_f c8 hf
      refine lv_aload_n hx hb (dc tbX7_statement_0_k 11 rfl) rfl (lv_at hl 0 rfl) ?_
      obtain ⟨M54, r53, q52, hf⟩ := cal_s hf
      refine g_callVi hx hb hml hown hts hK hap hsx hI (tX7_legStatement l hk0 q52 H.size) cv_X7_legStatement q_t7_231 rfl rfl ⟨Nat.le_of_ble_eq_true rfl, Nat.le_of_ble_eq_true rfl⟩ hk0.1 (by simp) rfl rfl rfl hl.1 rfl (Nat.le_of_ble_eq_true rfl) (dc tbX7_statement_0_k 12 rfl) ⟨Nat.le_of_ble_eq_true rfl, Nat.le_of_ble_eq_true rfl⟩ (fun H locs hI => ?_)
      obtain ⟨h55, hf⟩ := chk_s hf
      cases hf
      exact g_zret hx hb hr hlk hI (isB_n h55) (dc tbX7_statement_0_k 13 rfl)
  · have hf := ite_f c4 hf
    refine lv_aload_n hx hb (dc tbX7_statement_0_k 4 rfl) rfl (lv_at hl 0 rfl) ?_
    obtain ⟨M58, r57, q56, hf⟩ := cal_s hf
    refine g_callVi hx hb hml hown hts hK hap hsx hI (tX7_sheetStatement l hk0 q56 H.size) cv_X7_sheetStatement q_t7_218 rfl rfl ⟨Nat.le_of_ble_eq_true rfl, Nat.le_of_ble_eq_true rfl⟩ hk0.1 (by simp) rfl rfl rfl hl.1 rfl (Nat.le_of_ble_eq_true rfl) (dc tbX7_statement_0_k 5 rfl) ⟨Nat.le_of_ble_eq_true rfl, Nat.le_of_ble_eq_true rfl⟩ (fun H locs hI => ?_)
    obtain ⟨h59, hf⟩ := chk_s hf
    cases hf
    exact g_zret hx hb hr hlk hI (isB_n h59) (dc tbX7_statement_0_k 6 rfl)
theorem cv_X7_statement : cvF RX7 yX7_statement cX7_statement 2 (some .boolean) 0 := ⟨q_t7_209, q_s3_8, q_t1_11, q_t7_210, by decide +kernel⟩
def mX7_load_b102 (k0 : Nat) (x2 : Int32) (M : Mem) : Option (Mem × Int32) := bnd (wr M k0 8 (rd M k0 15)) (fun M25 => bnd (wr M25 k0 9 (rd M25 k0 16)) (fun M27 => ite2 (x2 = 0) (some (M27, (-3 : Int32))) (cal (mX7_copy (k0 + 2) (k0 + 1) M27) (fun M32 _ => bnd (wr M32 k0 4 (0 : Int32)) (fun M33 => chk (okb (0 : Int32) 86) (some (M33, (rd M33 (k0 + 1) ((0 : Int32)).toNatClampNeg))))))))
set_option maxHeartbeats 4000000 in
set_option maxRecDepth 100000 in
theorem tX7_load_b102 {p : Program} {l : Launch} {e : Env} {s : State} {m : MethodId} {args : Array Value} {below : List Frame} {meth : Method} {c : Code} {G : GT} {kd : Nat → Nat × Nat} {ad : Nat → Nat} (C : Cx p s m args meth c cX7_load 3 (some .int) RX7 G kd ad) {k0 : Nat} (hk0 : kModel kd k0) {MO : Mem} {vo : Int32}   : ∀ (x2 : Int32) (M : Mem), mX7_load_b102 k0 x2 M = some (MO, vo) → At p l e (rmO 7 0 0) s m args below meth c 0 0 (MQ below (Qg G kd ad s.heap.size MO (some (.int vo))) args s 0 0 (AS kd ad s.heap.size)) G kd ad 3 102 [(0, .ref (ad k0)), (2, .int x2)] [] M := by
  intro x2 M hf H locs ls hI hl
  obtain ⟨hx, hb, hml, hr, hown, hts, hlk, hK, hap, hsx⟩ := id C
  unfold mX7_load_b102 at hf
  refine lv_aload_n hx hb (dc tbX7_load_1_k 16 rfl) rfl (lv_at hl 0 rfl) ?_
  refine lv_aload_n hx hb (dc tbX7_load_1_k 17 rfl) rfl (lv_at hl 0 rfl) ?_
  refine gg7_15 hx hb hts hown hK hI hk0.1 q_t7_91 (dc tbX7_load_1_k 18 rfl) ?_
  obtain ⟨M25, e26, hf⟩ := bnd_s hf
  refine gp7_8 hx hb hts hown hK hap hI hk0.1 q_t7_84 (dc tbX7_load_1_k 19 rfl) e26 (fun H locs hI => ?_)
  refine lv_aload_n hx hb (dc tbX7_load_1_k 20 rfl) rfl (lv_at hl 0 rfl) ?_
  refine lv_aload_n hx hb (dc tbX7_load_1_k 21 rfl) rfl (lv_at hl 0 rfl) ?_
  refine gg7_16 hx hb hts hown hK hI hk0.1 q_t7_92 (dc tbX7_load_1_k 22 rfl) ?_
  obtain ⟨M27, e28, hf⟩ := bnd_s hf
  refine gp7_9 hx hb hts hown hK hap hI hk0.1 q_t7_85 (dc tbX7_load_1_k 23 rfl) e28 (fun H locs hI => ?_)
  refine lv_iload_n hx hb (dc tbX7_load_1_k 24 rfl) rfl (lv_at hl 1 rfl) ?_
  refine lv_if_ne (tgt := 125) hx hb (dc tbX7_load_1_k 25 rfl) rfl (fun c29 => ?_) (fun c29 => ?_)
  · have hf := ite_f c29 hf
    refine lv_aload_n hx hb (dc tbX7_load_1_k 28 rfl) rfl (lv_at hl 0 rfl) ?_
    refine gg7_1 hx hb hts hown hK hI hk0.1 q_t7_77 (dc tbX7_load_1_k 29 rfl) ?_
    refine lv_aload_n hx hb (dc tbX7_load_1_k 30 rfl) rfl (lv_at hl 0 rfl) ?_
    refine gg7_0 hx hb hts hown hK hI hk0.1 q_t7_76 (dc tbX7_load_1_k 31 rfl) ?_
    obtain ⟨M32, r31, q30, hf⟩ := cal_s hf
    refine g_callSv hx hb hml hown hts hK hap hsx hI (tX7_copy l hk0.2.2.1 hk0.2.1 q30 H.size) cs_X7_copy q_t7_73 rfl rfl ⟨Nat.le_of_ble_eq_true rfl, Nat.le_of_ble_eq_true rfl⟩ rfl hl.1 rfl (Nat.le_of_ble_eq_true rfl) (dc tbX7_load_1_k 32 rfl) ⟨Nat.le_of_ble_eq_true rfl, Nat.le_of_ble_eq_true rfl⟩ (fun H locs hI => ?_)
    refine lv_aload_n hx hb (dc tbX7_load_1_k 33 rfl) rfl (lv_at hl 0 rfl) ?_
    refine lv_iconst (v := 0) hx hb (dc tbX7_load_1_k 34 rfl) ic_0 ?_
    obtain ⟨M33, e34, hf⟩ := bnd_s hf
    refine gp7_4 hx hb hts hown hK hap hI hk0.1 q_t7_80 (dc tbX7_load_1_k 35 rfl) e34 (fun H locs hI => ?_)
    refine lv_aload_n hx hb (dc tbX7_load_1_k 36 rfl) rfl (lv_at hl 0 rfl) ?_
    refine gg7_0 hx hb hts hown hK hI hk0.1 q_t7_76 (dc tbX7_load_1_k 37 rfl) ?_
    refine lv_iconst (v := 0) hx hb (dc tbX7_load_1_k 38 rfl) ic_0 ?_
    obtain ⟨h35, hf⟩ := chk_s hf
    refine g_iald hx hb hK hI hk0.2.1 (okb_in h35) (dc tbX7_load_1_k 39 rfl) ?_
    cases hf
    exact g_iret hx hb hr hlk hI (dc tbX7_load_2_k 0 rfl)
  · have hf := ite_t c29 hf
    refine lv_bipush (v := -3) hx hb (dc tbX7_load_1_k 26 rfl) bp_m3 ?_
    cases hf
    exact g_iret hx hb hr hlk hI (dc tbX7_load_1_k 27 rfl)
def mX7_load_b98 (k0 : Nat) (ih68 : Int32 → Mem → Option (Mem × Int32)) (y0 : Int32) (M : Mem) : Option (Mem × Int32) := ih68 y0 M
set_option maxHeartbeats 4000000 in
set_option maxRecDepth 100000 in
theorem tX7_load_b98 {p : Program} {l : Launch} {e : Env} {s : State} {m : MethodId} {args : Array Value} {below : List Frame} {meth : Method} {c : Code} {G : GT} {kd : Nat → Nat × Nat} {ad : Nat → Nat} (C : Cx p s m args meth c cX7_load 3 (some .int) RX7 G kd ad) {k0 : Nat} (hk0 : kModel kd k0) {MO : Mem} {vo : Int32} {ih68 : Int32 → Mem → Option (Mem × Int32)} (hih68 : ∀ (x2 : Int32) (M : Mem), ih68 x2 M = some (MO, vo) → At p l e (rmO 7 0 0) s m args below meth c 0 0 (MQ below (Qg G kd ad s.heap.size MO (some (.int vo))) args s 0 0 (AS kd ad s.heap.size)) G kd ad 3 68 [(0, .ref (ad k0)), (2, .int x2)] [] M) : ∀ (y0 : Int32) (M : Mem), mX7_load_b98 k0 ih68 y0 M = some (MO, vo) → At p l e (rmO 7 0 0) s m args below meth c 0 0 (MQ below (Qg G kd ad s.heap.size MO (some (.int vo))) args s 0 0 (AS kd ad s.heap.size)) G kd ad 3 98 [(0, .ref (ad k0))] [.int y0] M := by
  intro y0 M hf H locs ls hI hl
  obtain ⟨hx, hb, hml, hr, hown, hts, hlk, hK, hap, hsx⟩ := id C
  unfold mX7_load_b98 at hf
  refine lv_istore_n (lv' := [(2, .int y0), (0, .ref (ad k0))]) hx hb (dc tbX7_load_1_k 14 rfl) rfl hl (by decide) rfl (fun ls hl => ?_)
  refine lv_goto (tgt := 68) hx hb (dc tbX7_load_1_k 15 rfl) rfl ?_
  exact hih68 y0 M hf _ _ _ hI (lv_sub hl [1, 0] rfl)
def mX7_load_b97 (k0 : Nat) (ih68 : Int32 → Mem → Option (Mem × Int32)) (M : Mem) : Option (Mem × Int32) := mX7_load_b98 k0 ih68 (0 : Int32) M
set_option maxHeartbeats 4000000 in
set_option maxRecDepth 100000 in
theorem tX7_load_b97 {p : Program} {l : Launch} {e : Env} {s : State} {m : MethodId} {args : Array Value} {below : List Frame} {meth : Method} {c : Code} {G : GT} {kd : Nat → Nat × Nat} {ad : Nat → Nat} (C : Cx p s m args meth c cX7_load 3 (some .int) RX7 G kd ad) {k0 : Nat} (hk0 : kModel kd k0) {MO : Mem} {vo : Int32} {ih68 : Int32 → Mem → Option (Mem × Int32)} (hih68 : ∀ (x2 : Int32) (M : Mem), ih68 x2 M = some (MO, vo) → At p l e (rmO 7 0 0) s m args below meth c 0 0 (MQ below (Qg G kd ad s.heap.size MO (some (.int vo))) args s 0 0 (AS kd ad s.heap.size)) G kd ad 3 68 [(0, .ref (ad k0)), (2, .int x2)] [] M) : ∀  (M : Mem), mX7_load_b97 k0 ih68 M = some (MO, vo) → At p l e (rmO 7 0 0) s m args below meth c 0 0 (MQ below (Qg G kd ad s.heap.size MO (some (.int vo))) args s 0 0 (AS kd ad s.heap.size)) G kd ad 3 97 [(0, .ref (ad k0))] [] M := by
  intro M hf H locs ls hI hl
  obtain ⟨hx, hb, hml, hr, hown, hts, hlk, hK, hap, hsx⟩ := id C
  unfold mX7_load_b97 at hf
  refine lv_iconst (v := 0) hx hb (dc tbX7_load_1_k 13 rfl) ic_0 ?_
  exact tX7_load_b98 C hk0 hih68 (0 : Int32) M hf _ _ _ hI (lv_sub hl [0] rfl)
def mX7_load_b68 (k0 : Nat) (ih68 : Int32 → Mem → Option (Mem × Int32)) (x2 : Int32) (M : Mem) : Option (Mem × Int32) := ite2 (x2 = 0) (mX7_load_b102 k0 x2 M) (ite2 ((rd M k0 13) = 0) (mX7_load_b102 k0 x2 M) (cal (mX7_statement k0 M) (fun M39 r38 => ite2 (r38 = 0) (mX7_load_b97 k0 ih68 M39) (cal (mX7_closed k0 M39) (fun M43 r42 => ite2 (r42 = 0) (mX7_load_b97 k0 ih68 M43) (mX7_load_b98 k0 ih68 (1 : Int32) M43))))))
set_option maxHeartbeats 4000000 in
set_option maxRecDepth 100000 in
theorem tX7_load_b68 {p : Program} {l : Launch} {e : Env} {s : State} {m : MethodId} {args : Array Value} {below : List Frame} {meth : Method} {c : Code} {G : GT} {kd : Nat → Nat × Nat} {ad : Nat → Nat} (C : Cx p s m args meth c cX7_load 3 (some .int) RX7 G kd ad) {k0 : Nat} (hk0 : kModel kd k0) {MO : Mem} {vo : Int32} {ih68 : Int32 → Mem → Option (Mem × Int32)} (hih68 : ∀ (x2 : Int32) (M : Mem), ih68 x2 M = some (MO, vo) → At p l e (rmO 7 0 0) s m args below meth c 0 0 (MQ below (Qg G kd ad s.heap.size MO (some (.int vo))) args s 0 0 (AS kd ad s.heap.size)) G kd ad 3 68 [(0, .ref (ad k0)), (2, .int x2)] [] M) : ∀ (x2 : Int32) (M : Mem), mX7_load_b68 k0 ih68 x2 M = some (MO, vo) → At p l e (rmO 7 0 0) s m args below meth c 0 0 (MQ below (Qg G kd ad s.heap.size MO (some (.int vo))) args s 0 0 (AS kd ad s.heap.size)) G kd ad 3 68 [(0, .ref (ad k0)), (2, .int x2)] [] M := by
  intro x2 M hf H locs ls hI hl
  obtain ⟨hx, hb, hml, hr, hown, hts, hlk, hK, hap, hsx⟩ := id C
  unfold mX7_load_b68 at hf
  refine lv_iload_n hx hb (dc tbX7_load_1_k 0 rfl) rfl (lv_at hl 1 rfl) ?_
  refine lv_if_eq (tgt := 102) hx hb (dc tbX7_load_1_k 1 rfl) rfl (fun c24 => ?_) (fun c24 => ?_)
  · have hf := ite_t c24 hf
    exact tX7_load_b102 C hk0 x2 M hf _ _ _ hI (lv_sub hl [0, 1] rfl)
  · have hf := ite_f c24 hf
    refine lv_aload_n hx hb (dc tbX7_load_1_k 2 rfl) rfl (lv_at hl 0 rfl) ?_
    refine gg7_13 hx hb hts hown hK hI hk0.1 q_t7_89 (dc tbX7_load_1_k 3 rfl) ?_
    refine lv_if_eq (tgt := 102) hx hb (dc tbX7_load_1_k 4 rfl) rfl (fun c36 => ?_) (fun c36 => ?_)
    · have hf := ite_t c36 hf
      exact tX7_load_b102 C hk0 x2 M hf _ _ _ hI (lv_sub hl [0, 1] rfl)
    · have hf := ite_f c36 hf
      refine lv_aload_n hx hb (dc tbX7_load_1_k 5 rfl) rfl (lv_at hl 0 rfl) ?_
      obtain ⟨M39, r38, q37, hf⟩ := cal_s hf
      refine g_callVi hx hb hml hown hts hK hap hsx hI (tX7_statement l hk0 q37 H.size) cv_X7_statement q_t7_207 rfl rfl ⟨Nat.le_of_ble_eq_true rfl, Nat.le_of_ble_eq_true rfl⟩ hk0.1 (by simp) rfl rfl rfl hl.1 rfl (Nat.le_of_ble_eq_true rfl) (dc tbX7_load_1_k 6 rfl) ⟨Nat.le_of_ble_eq_true rfl, Nat.le_of_ble_eq_true rfl⟩ (fun H locs hI => ?_)
      refine lv_if_eq (tgt := 97) hx hb (dc tbX7_load_1_k 7 rfl) rfl (fun c40 => ?_) (fun c40 => ?_)
      · have hf := ite_t c40 hf
        exact tX7_load_b97 C hk0 hih68 M39 hf _ _ _ hI (lv_sub hl [0] rfl)
      · have hf := ite_f c40 hf
        refine lv_aload_n hx hb (dc tbX7_load_1_k 8 rfl) rfl (lv_at hl 0 rfl) ?_
        obtain ⟨M43, r42, q41, hf⟩ := cal_s hf
        refine g_callVi hx hb hml hown hts hK hap hsx hI (tX7_closed l hk0 q41 H.size) cv_X7_closed q_t8_24 rfl rfl ⟨Nat.le_of_ble_eq_true rfl, Nat.le_of_ble_eq_true rfl⟩ hk0.1 (by simp) rfl rfl rfl hl.1 rfl (Nat.le_of_ble_eq_true rfl) (dc tbX7_load_1_k 9 rfl) ⟨Nat.le_of_ble_eq_true rfl, Nat.le_of_ble_eq_true rfl⟩ (fun H locs hI => ?_)
        refine lv_if_eq (tgt := 97) hx hb (dc tbX7_load_1_k 10 rfl) rfl (fun c44 => ?_) (fun c44 => ?_)
        · have hf := ite_t c44 hf
          exact tX7_load_b97 C hk0 hih68 M43 hf _ _ _ hI (lv_sub hl [0] rfl)
        · have hf := ite_f c44 hf
          refine lv_iconst (v := 1) hx hb (dc tbX7_load_1_k 11 rfl) ic_1 ?_
          refine lv_goto (tgt := 98) hx hb (dc tbX7_load_1_k 12 rfl) rfl ?_
          exact tX7_load_b98 C hk0 hih68 (1 : Int32) M43 hf _ _ _ hI (lv_sub hl [0] rfl)
def mX7_load_l68 (k0 : Nat) : Nat → Int32 → Mem → Option (Mem × Int32)
  | 0 => fun _ _ => none
  | n + 1 => mX7_load_b68 k0 (mX7_load_l68 k0 n)
theorem tX7_load_l68 {p : Program} {l : Launch} {e : Env} {s : State} {m : MethodId} {args : Array Value} {below : List Frame} {meth : Method} {c : Code} {G : GT} {kd : Nat → Nat × Nat} {ad : Nat → Nat} (C : Cx p s m args meth c cX7_load 3 (some .int) RX7 G kd ad) {k0 : Nat} (hk0 : kModel kd k0) {MO : Mem} {vo : Int32}   : ∀ (fuel : Nat) (x2 : Int32) (M : Mem), mX7_load_l68 k0 fuel x2 M = some (MO, vo) → At p l e (rmO 7 0 0) s m args below meth c 0 0 (MQ below (Qg G kd ad s.heap.size MO (some (.int vo))) args s 0 0 (AS kd ad s.heap.size)) G kd ad 3 68 [(0, .ref (ad k0)), (2, .int x2)] [] M := by
  intro fuel
  induction fuel with
  | zero => intro x2 M hf; cases hf
  | succ n IH => exact tX7_load_b68 C hk0 IH
def mX7_load_b20 (k0 : Nat) (x1 : Int32) (y1 : Int32) (M : Mem) : Option (Mem × Int32) := bnd (wr M k0 5 y1) (fun M5 => ite2 ((rd M5 k0 5) ≤ 0) (bnd (wr M5 k0 10 x1) (fun M8 => bnd (wr M8 k0 7 (0 : Int32)) (fun M10 => bnd (wr M10 k0 12 (0 : Int32)) (fun M12 => bnd (wr M12 k0 15 (0 : Int32)) (fun M14 => bnd (wr M14 k0 16 (-1 : Int32)) (fun M16 => cal (mX7_reset k0 M16) (fun M20 _ => cal (mX7_advance k0 M20) (fun M23 r22 => mX7_load_l68 k0 5000 (1 : Int32) M23)))))))) (some (M5, (0 : Int32))))
set_option maxHeartbeats 4000000 in
set_option maxRecDepth 100000 in
theorem tX7_load_b20 {p : Program} {l : Launch} {e : Env} {s : State} {m : MethodId} {args : Array Value} {below : List Frame} {meth : Method} {c : Code} {G : GT} {kd : Nat → Nat × Nat} {ad : Nat → Nat} (C : Cx p s m args meth c cX7_load 3 (some .int) RX7 G kd ad) {k0 : Nat} (hk0 : kModel kd k0) {MO : Mem} {vo : Int32}   : ∀ (x1 : Int32) (y1 : Int32) (M : Mem), mX7_load_b20 k0 x1 y1 M = some (MO, vo) → At p l e (rmO 7 0 0) s m args below meth c 0 0 (MQ below (Qg G kd ad s.heap.size MO (some (.int vo))) args s 0 0 (AS kd ad s.heap.size)) G kd ad 3 20 [(0, .ref (ad k0)), (1, .int x1)] [.int y1, .ref (ad k0)] M := by
  intro x1 y1 M hf H locs ls hI hl
  obtain ⟨hx, hb, hml, hr, hown, hts, hlk, hK, hap, hsx⟩ := id C
  unfold mX7_load_b20 at hf
  obtain ⟨M5, e6, hf⟩ := bnd_s hf
  refine gp7_5 hx hb hts hown hK hap hI hk0.1 q_t7_81 (dc tbX7_load_0_k 12 rfl) e6 (fun H locs hI => ?_)
  refine lv_aload_n hx hb (dc tbX7_load_0_k 13 rfl) rfl (lv_at hl 0 rfl) ?_
  refine gg7_5 hx hb hts hown hK hI hk0.1 q_t7_81 (dc tbX7_load_0_k 14 rfl) ?_
  refine lv_if_le (tgt := 32) hx hb (dc tbX7_load_0_k 15 rfl) rfl (fun c7 => ?_) (fun c7 => ?_)
  · have hf := ite_t c7 hf
    refine lv_aload_n hx hb (dc tbX7_load_0_k 18 rfl) rfl (lv_at hl 0 rfl) ?_
    refine lv_iload_n hx hb (dc tbX7_load_0_k 19 rfl) rfl (lv_at hl 1 rfl) ?_
    obtain ⟨M8, e9, hf⟩ := bnd_s hf
    refine gp7_10 hx hb hts hown hK hap hI hk0.1 q_t7_86 (dc tbX7_load_0_k 20 rfl) e9 (fun H locs hI => ?_)
    refine lv_aload_n hx hb (dc tbX7_load_0_k 21 rfl) rfl (lv_at hl 0 rfl) ?_
    refine lv_iconst (v := 0) hx hb (dc tbX7_load_0_k 22 rfl) ic_0 ?_
    obtain ⟨M10, e11, hf⟩ := bnd_s hf
    refine gp7_7 hx hb hts hown hK hap hI hk0.1 q_t7_83 (dc tbX7_load_0_k 23 rfl) e11 (fun H locs hI => ?_)
    refine lv_aload_n hx hb (dc tbX7_load_0_k 24 rfl) rfl (lv_at hl 0 rfl) ?_
    refine lv_iconst (v := 0) hx hb (dc tbX7_load_0_k 25 rfl) ic_0 ?_
    obtain ⟨M12, e13, hf⟩ := bnd_s hf
    refine gp7_12 hx hb hts hown hK hap hI hk0.1 q_t7_88 (dc tbX7_load_0_k 26 rfl) e13 (fun H locs hI => ?_)
    refine lv_aload_n hx hb (dc tbX7_load_0_k 27 rfl) rfl (lv_at hl 0 rfl) ?_
    refine lv_iconst (v := 0) hx hb (dc tbX7_load_0_k 28 rfl) ic_0 ?_
    obtain ⟨M14, e15, hf⟩ := bnd_s hf
    refine gp7_15 hx hb hts hown hK hap hI hk0.1 q_t7_91 (dc tbX7_load_0_k 29 rfl) e15 (fun H locs hI => ?_)
    refine lv_aload_n hx hb (dc tbX7_load_0_k 30 rfl) rfl (lv_at hl 0 rfl) ?_
    refine lv_iconst (v := -1) hx hb (dc tbX7_load_0_k 31 rfl) ic_m1 ?_
    obtain ⟨M16, e17, hf⟩ := bnd_s hf
    refine gp7_16 hx hb hts hown hK hap hI hk0.1 q_t7_92 (dc tbX7_load_0_k 32 rfl) e17 (fun H locs hI => ?_)
    refine lv_aload_n hx hb (dc tbX7_load_0_k 33 rfl) rfl (lv_at hl 0 rfl) ?_
    obtain ⟨M20, r19, q18, hf⟩ := cal_s hf
    refine g_callVv hx hb hml hown hts hK hap hsx hI (tX7_reset l hk0 q18 H.size) cv_X7_reset q_t7_65 rfl rfl ⟨Nat.le_of_ble_eq_true rfl, Nat.le_of_ble_eq_true rfl⟩ hk0.1 (by simp) rfl rfl rfl hl.1 rfl (Nat.le_of_ble_eq_true rfl) (dc tbX7_load_0_k 34 rfl) ⟨Nat.le_of_ble_eq_true rfl, Nat.le_of_ble_eq_true rfl⟩ (fun H locs hI => ?_)
    refine lv_aload_n hx hb (dc tbX7_load_0_k 35 rfl) rfl (lv_at hl 0 rfl) ?_
    obtain ⟨M23, r22, q21, hf⟩ := cal_s hf
    refine g_callVi hx hb hml hown hts hK hap hsx hI (tX7_advance l hk0 q21 H.size) cv_X7_advance q_t7_193 rfl rfl ⟨Nat.le_of_ble_eq_true rfl, Nat.le_of_ble_eq_true rfl⟩ hk0.1 (by simp) rfl rfl rfl hl.1 rfl (Nat.le_of_ble_eq_true rfl) (dc tbX7_load_0_k 36 rfl) ⟨Nat.le_of_ble_eq_true rfl, Nat.le_of_ble_eq_true rfl⟩ (fun H locs hI => ?_)
    refine lv_pop hx hb (dc tbX7_load_0_k 37 rfl) rfl ?_
    refine lv_iconst (v := 1) hx hb (dc tbX7_load_0_k 38 rfl) ic_1 ?_
    refine lv_istore_n (lv' := [(2, .int (1 : Int32)), (0, .ref (ad k0)), (1, .int x1)]) hx hb (dc tbX7_load_0_k 39 rfl) rfl hl (by decide) rfl (fun ls hl => ?_)
    exact tX7_load_l68 C hk0 5000 (1 : Int32) M23 hf _ _ _ hI (lv_sub hl [1, 0] rfl)
  · have hf := ite_f c7 hf
    refine lv_iconst (v := 0) hx hb (dc tbX7_load_0_k 16 rfl) ic_0 ?_
    cases hf
    exact g_iret hx hb hr hlk hI (dc tbX7_load_0_k 17 rfl)
def mX7_load (k0 : Nat) (x1 : Int32) (M : Mem) : Option (Mem × Int32) := cap (mX7_between (x1).toInt64 (0 : Int64) ((rd M k0 7)).toInt64 M) (fun r2 => ite2 (r2 = 0) (mX7_load_b20 k0 x1 (1 : Int32) M) (mX7_load_b20 k0 x1 (0 : Int32) M))
set_option maxHeartbeats 4000000 in
set_option maxRecDepth 100000 in
theorem tX7_load (l : Launch) {G : GT} {kd : Nat → Nat × Nat} {ad : Nat → Nat} {k0 : Nat} (hk0 : kModel kd k0) {x1 : Int32} {M : Mem} {MO : Mem} {vo : Int32} (hf : mX7_load k0 x1 M = some (MO, vo)) (n : Nat) : Met l yX7_load (Cond.code yX7_load cX7_load 3 (some .int) :: WA) (rmO 7 0 0) (Pg G kd ad n [.ref (ad k0), .int x1] M) (Qg G kd ad n MO (some (.int vo))) 0 0 (AS kd ad n) := by
  refine g_body (own := RX7) (by decide) rfl ?_ (Nat.le_of_ble_eq_true rfl)
  intro p e s m args below meth c C _ H locs ls hI hl
  obtain ⟨hx, hb, hml, hr, hown, hts, hlk, hK, hap, hsx⟩ := id C
  have hl : lv_has ls 3 [(0, .ref (ad k0)), (1, .int x1)] := hl
  unfold mX7_load at hf
  refine lv_aload_n hx hb (dc tbX7_load_0_k 0 rfl) rfl (lv_at hl 0 rfl) ?_
  refine lv_iload_n hx hb (dc tbX7_load_0_k 1 rfl) rfl (lv_at hl 1 rfl) ?_
  refine lv_i2l hx hb (dc tbX7_load_0_k 2 rfl) rfl ?_
  refine lv_lconst (v := 0) hx hb (dc tbX7_load_0_k 3 rfl) (by decide) ?_
  refine lv_aload_n hx hb (dc tbX7_load_0_k 4 rfl) rfl (lv_at hl 0 rfl) ?_
  refine gg7_7 hx hb hts hown hK hI hk0.1 q_t7_83 (dc tbX7_load_0_k 5 rfl) ?_
  refine lv_i2l hx hb (dc tbX7_load_0_k 6 rfl) rfl ?_
  obtain ⟨r2, q1, hf⟩ := cap_s hf
  refine g_callSi hx hb hml hown hts hK hap hsx hI (tX7_between l  q1 H.size) cs_X7_between q_t7_190 rfl rfl ⟨Nat.le_of_ble_eq_true rfl, Nat.le_of_ble_eq_true rfl⟩ rfl hl.1 rfl (Nat.le_of_ble_eq_true rfl) (dc tbX7_load_0_k 7 rfl) ⟨Nat.le_of_ble_eq_true rfl, Nat.le_of_ble_eq_true rfl⟩ (fun H locs hI => ?_)
  refine lv_if_eq (tgt := 19) hx hb (dc tbX7_load_0_k 8 rfl) rfl (fun c4 => ?_) (fun c4 => ?_)
  · have hf := ite_t c4 hf
    refine lv_iconst (v := 1) hx hb (dc tbX7_load_0_k 11 rfl) ic_1 ?_
    exact tX7_load_b20 C hk0 x1 (1 : Int32) M hf _ _ _ hI (lv_sub hl [0, 1] rfl)
  · have hf := ite_f c4 hf
    refine lv_iconst (v := 0) hx hb (dc tbX7_load_0_k 9 rfl) ic_0 ?_
    refine lv_goto (tgt := 20) hx hb (dc tbX7_load_0_k 10 rfl) rfl ?_
    exact tX7_load_b20 C hk0 x1 (0 : Int32) M hf _ _ _ hI (lv_sub hl [0, 1] rfl)
theorem cv_X7_load : cvF RX7 yX7_load cX7_load 3 (some .int) 1 := ⟨q_t7_187, q_t7_188, q_t1_11, q_t7_189, by decide +kernel⟩
def mX7_errorKind (k0 : Nat) (M : Mem) : Option (Mem × Int32) := bnd (wr M k0 5 (0 : Int32)) (fun M1 => some (M1, (rd M1 k0 8)))
set_option maxHeartbeats 4000000 in
set_option maxRecDepth 100000 in
theorem tX7_errorKind (l : Launch) {G : GT} {kd : Nat → Nat × Nat} {ad : Nat → Nat} {k0 : Nat} (hk0 : kModel kd k0) {M : Mem} {MO : Mem} {vo : Int32} (hf : mX7_errorKind k0 M = some (MO, vo)) (n : Nat) : Met l yX7_errorKind (Cond.code yX7_errorKind cX7_errorKind 1 (some .int) :: WA) (rmO 0 0 0) (Pg G kd ad n [.ref (ad k0)] M) (Qg G kd ad n MO (some (.int vo))) 0 0 (AS kd ad n) := by
  refine g_body (own := RX7) (by decide) rfl ?_ (Nat.le_of_ble_eq_true rfl)
  intro p e s m args below meth c C _ H locs ls hI hl
  obtain ⟨hx, hb, hml, hr, hown, hts, hlk, hK, hap, hsx⟩ := id C
  have hl : lv_has ls 1 [(0, .ref (ad k0))] := hl
  unfold mX7_errorKind at hf
  refine lv_aload_n hx hb (dc tbX7_errorKind_k 0 rfl) rfl (lv_at hl 0 rfl) ?_
  refine lv_iconst (v := 0) hx hb (dc tbX7_errorKind_k 1 rfl) ic_0 ?_
  obtain ⟨M1, e2, hf⟩ := bnd_s hf
  refine gp7_5 hx hb hts hown hK hap hI hk0.1 q_t7_81 (dc tbX7_errorKind_k 2 rfl) e2 (fun H locs hI => ?_)
  refine lv_aload_n hx hb (dc tbX7_errorKind_k 3 rfl) rfl (lv_at hl 0 rfl) ?_
  refine gg7_8 hx hb hts hown hK hI hk0.1 q_t7_84 (dc tbX7_errorKind_k 4 rfl) ?_
  cases hf
  exact g_iret hx hb hr hlk hI (dc tbX7_errorKind_k 5 rfl)
theorem cv_X7_errorKind : cvF RX7 yX7_errorKind cX7_errorKind 1 (some .int) 0 := ⟨q_t8_29, q_t8_30, q_t1_11, q_t8_31, by decide +kernel⟩
def mX7_errorPosition (k0 : Nat) (M : Mem) : Option (Mem × Int32) := bnd (wr M k0 5 (0 : Int32)) (fun M1 => some (M1, (rd M1 k0 9)))
set_option maxHeartbeats 4000000 in
set_option maxRecDepth 100000 in
theorem tX7_errorPosition (l : Launch) {G : GT} {kd : Nat → Nat × Nat} {ad : Nat → Nat} {k0 : Nat} (hk0 : kModel kd k0) {M : Mem} {MO : Mem} {vo : Int32} (hf : mX7_errorPosition k0 M = some (MO, vo)) (n : Nat) : Met l yX7_errorPosition (Cond.code yX7_errorPosition cX7_errorPosition 1 (some .int) :: WA) (rmO 0 0 0) (Pg G kd ad n [.ref (ad k0)] M) (Qg G kd ad n MO (some (.int vo))) 0 0 (AS kd ad n) := by
  refine g_body (own := RX7) (by decide) rfl ?_ (Nat.le_of_ble_eq_true rfl)
  intro p e s m args below meth c C _ H locs ls hI hl
  obtain ⟨hx, hb, hml, hr, hown, hts, hlk, hK, hap, hsx⟩ := id C
  have hl : lv_has ls 1 [(0, .ref (ad k0))] := hl
  unfold mX7_errorPosition at hf
  refine lv_aload_n hx hb (dc tbX7_errorPosition_k 0 rfl) rfl (lv_at hl 0 rfl) ?_
  refine lv_iconst (v := 0) hx hb (dc tbX7_errorPosition_k 1 rfl) ic_0 ?_
  obtain ⟨M1, e2, hf⟩ := bnd_s hf
  refine gp7_5 hx hb hts hown hK hap hI hk0.1 q_t7_81 (dc tbX7_errorPosition_k 2 rfl) e2 (fun H locs hI => ?_)
  refine lv_aload_n hx hb (dc tbX7_errorPosition_k 3 rfl) rfl (lv_at hl 0 rfl) ?_
  refine gg7_9 hx hb hts hown hK hI hk0.1 q_t7_85 (dc tbX7_errorPosition_k 4 rfl) ?_
  cases hf
  exact g_iret hx hb hr hlk hI (dc tbX7_errorPosition_k 5 rfl)
theorem cv_X7_errorPosition : cvF RX7 yX7_errorPosition cX7_errorPosition 1 (some .int) 0 := ⟨q_t8_33, q_t8_34, q_t1_11, q_t8_35, by decide +kernel⟩
def mX7_isBend (k0 : Nat) (x1 : Int32) (M : Mem) : Option Int32 := chk (okb (0 : Int32) 86) (cap (mX7_between (x1).toInt64 (0 : Int64) (((rd M (k0 + 1) ((0 : Int32)).toNatClampNeg) - (1 : Int32))).toInt64 M) (fun r3 => chk (isB r3) (some r3)))
set_option maxHeartbeats 4000000 in
set_option maxRecDepth 100000 in
theorem tX7_isBend (l : Launch) {G : GT} {kd : Nat → Nat × Nat} {ad : Nat → Nat} {k0 : Nat} (hk0 : kModel kd k0) {x1 : Int32} {M : Mem} {vo : Int32} (hf : mX7_isBend k0 x1 M = some vo) (n : Nat) : Met l yX7_isBend (Cond.code yX7_isBend cX7_isBend 2 (some .boolean) :: WA) (rmO 1 0 0) (Pg G kd ad n [.ref (ad k0), .int x1] M) (Qg G kd ad n M (some (.int vo))) 0 0 (AS kd ad n) := by
  refine g_body (own := RX7) (by decide) rfl ?_ (Nat.le_of_ble_eq_true rfl)
  intro p e s m args below meth c C _ H locs ls hI hl
  obtain ⟨hx, hb, hml, hr, hown, hts, hlk, hK, hap, hsx⟩ := id C
  have hl : lv_has ls 2 [(0, .ref (ad k0)), (1, .int x1)] := hl
  unfold mX7_isBend at hf
  refine lv_iload_n hx hb (dc tbX7_isBend_k 0 rfl) rfl (lv_at hl 1 rfl) ?_
  refine lv_i2l hx hb (dc tbX7_isBend_k 1 rfl) rfl ?_
  refine lv_lconst (v := 0) hx hb (dc tbX7_isBend_k 2 rfl) (by decide) ?_
  refine lv_aload_n hx hb (dc tbX7_isBend_k 3 rfl) rfl (lv_at hl 0 rfl) ?_
  refine gg7_0 hx hb hts hown hK hI hk0.1 q_t7_76 (dc tbX7_isBend_k 4 rfl) ?_
  refine lv_iconst (v := 0) hx hb (dc tbX7_isBend_k 5 rfl) ic_0 ?_
  obtain ⟨h1, hf⟩ := chk_s hf
  refine g_iald hx hb hK hI hk0.2.1 (okb_in h1) (dc tbX7_isBend_k 6 rfl) ?_
  refine lv_iconst (v := 1) hx hb (dc tbX7_isBend_k 7 rfl) ic_1 ?_
  refine lv_isub hx hb (dc tbX7_isBend_k 8 rfl) ?_
  refine lv_i2l hx hb (dc tbX7_isBend_k 9 rfl) rfl ?_
  obtain ⟨r3, q2, hf⟩ := cap_s hf
  refine g_callSi hx hb hml hown hts hK hap hsx hI (tX7_between l  q2 H.size) cs_X7_between q_t7_190 rfl rfl ⟨Nat.le_of_ble_eq_true rfl, Nat.le_of_ble_eq_true rfl⟩ rfl hl.1 rfl (Nat.le_of_ble_eq_true rfl) (dc tbX7_isBend_k 10 rfl) ⟨Nat.le_of_ble_eq_true rfl, Nat.le_of_ble_eq_true rfl⟩ (fun H locs hI => ?_)
  obtain ⟨h5, hf⟩ := chk_s hf
  cases hf
  exact g_zret hx hb hr hlk hI (isB_n h5) (dc tbX7_isBend_k 11 rfl)
theorem cv_X7_isBend : cvF RX7 yX7_isBend cX7_isBend 2 (some .boolean) 1 := ⟨q_t8_66, q_s4_7, q_t1_11, q_t8_67, by decide +kernel⟩
def mX7_isLeg (k0 : Nat) (x1 : Int32) (M : Mem) : Option Int32 := chk (okb (1 : Int32) 86) (cap (mX7_between (x1).toInt64 (0 : Int64) (((rd M (k0 + 1) ((1 : Int32)).toNatClampNeg) - (1 : Int32))).toInt64 M) (fun r3 => chk (isB r3) (some r3)))
set_option maxHeartbeats 4000000 in
set_option maxRecDepth 100000 in
theorem tX7_isLeg (l : Launch) {G : GT} {kd : Nat → Nat × Nat} {ad : Nat → Nat} {k0 : Nat} (hk0 : kModel kd k0) {x1 : Int32} {M : Mem} {vo : Int32} (hf : mX7_isLeg k0 x1 M = some vo) (n : Nat) : Met l yX7_isLeg (Cond.code yX7_isLeg cX7_isLeg 2 (some .boolean) :: WA) (rmO 1 0 0) (Pg G kd ad n [.ref (ad k0), .int x1] M) (Qg G kd ad n M (some (.int vo))) 0 0 (AS kd ad n) := by
  refine g_body (own := RX7) (by decide) rfl ?_ (Nat.le_of_ble_eq_true rfl)
  intro p e s m args below meth c C _ H locs ls hI hl
  obtain ⟨hx, hb, hml, hr, hown, hts, hlk, hK, hap, hsx⟩ := id C
  have hl : lv_has ls 2 [(0, .ref (ad k0)), (1, .int x1)] := hl
  unfold mX7_isLeg at hf
  refine lv_iload_n hx hb (dc tbX7_isLeg_k 0 rfl) rfl (lv_at hl 1 rfl) ?_
  refine lv_i2l hx hb (dc tbX7_isLeg_k 1 rfl) rfl ?_
  refine lv_lconst (v := 0) hx hb (dc tbX7_isLeg_k 2 rfl) (by decide) ?_
  refine lv_aload_n hx hb (dc tbX7_isLeg_k 3 rfl) rfl (lv_at hl 0 rfl) ?_
  refine gg7_0 hx hb hts hown hK hI hk0.1 q_t7_76 (dc tbX7_isLeg_k 4 rfl) ?_
  refine lv_iconst (v := 1) hx hb (dc tbX7_isLeg_k 5 rfl) ic_1 ?_
  obtain ⟨h1, hf⟩ := chk_s hf
  refine g_iald hx hb hK hI hk0.2.1 (okb_in h1) (dc tbX7_isLeg_k 6 rfl) ?_
  refine lv_iconst (v := 1) hx hb (dc tbX7_isLeg_k 7 rfl) ic_1 ?_
  refine lv_isub hx hb (dc tbX7_isLeg_k 8 rfl) ?_
  refine lv_i2l hx hb (dc tbX7_isLeg_k 9 rfl) rfl ?_
  obtain ⟨r3, q2, hf⟩ := cap_s hf
  refine g_callSi hx hb hml hown hts hK hap hsx hI (tX7_between l  q2 H.size) cs_X7_between q_t7_190 rfl rfl ⟨Nat.le_of_ble_eq_true rfl, Nat.le_of_ble_eq_true rfl⟩ rfl hl.1 rfl (Nat.le_of_ble_eq_true rfl) (dc tbX7_isLeg_k 10 rfl) ⟨Nat.le_of_ble_eq_true rfl, Nat.le_of_ble_eq_true rfl⟩ (fun H locs hI => ?_)
  obtain ⟨h5, hf⟩ := chk_s hf
  cases hf
  exact g_zret hx hb hr hlk hI (isB_n h5) (dc tbX7_isLeg_k 11 rfl)
theorem cv_X7_isLeg : cvF RX7 yX7_isLeg cX7_isLeg 2 (some .boolean) 1 := ⟨q_t8_54, q_s4_5, q_t1_11, q_t8_55, by decide +kernel⟩
def mX7_isSide (x0 : Int32) (M : Mem) : Option Int32 := cap (mX7_between (x0).toInt64 (0 : Int64) (1 : Int64) M) (fun r2 => chk (isB r2) (some r2))
set_option maxHeartbeats 4000000 in
set_option maxRecDepth 100000 in
theorem tX7_isSide (l : Launch) {G : GT} {kd : Nat → Nat × Nat} {ad : Nat → Nat}  {x0 : Int32} {M : Mem} {vo : Int32} (hf : mX7_isSide  x0 M = some vo) (n : Nat) : Met l yX7_isSide (Cond.code yX7_isSide cX7_isSide 1 (some .boolean) :: WA) (rmO 1 0 0) (Pg G kd ad n [.int x0] M) (Qg G kd ad n M (some (.int vo))) 0 0 (AS kd ad n) := by
  refine g_body (own := RX7) (by decide) rfl ?_ (Nat.le_of_ble_eq_true rfl)
  intro p e s m args below meth c C _ H locs ls hI hl
  obtain ⟨hx, hb, hml, hr, hown, hts, hlk, hK, hap, hsx⟩ := id C
  have hl : lv_has ls 1 [(0, .int x0)] := hl
  unfold mX7_isSide at hf
  refine lv_iload_n hx hb (dc tbX7_isSide_k 0 rfl) rfl (lv_at hl 0 rfl) ?_
  refine lv_i2l hx hb (dc tbX7_isSide_k 1 rfl) rfl ?_
  refine lv_lconst (v := 0) hx hb (dc tbX7_isSide_k 2 rfl) (by decide) ?_
  refine lv_lconst (v := 1) hx hb (dc tbX7_isSide_k 3 rfl) (by decide) ?_
  obtain ⟨r2, q1, hf⟩ := cap_s hf
  refine g_callSi hx hb hml hown hts hK hap hsx hI (tX7_between l  q1 H.size) cs_X7_between q_t7_190 rfl rfl ⟨Nat.le_of_ble_eq_true rfl, Nat.le_of_ble_eq_true rfl⟩ rfl hl.1 rfl (Nat.le_of_ble_eq_true rfl) (dc tbX7_isSide_k 4 rfl) ⟨Nat.le_of_ble_eq_true rfl, Nat.le_of_ble_eq_true rfl⟩ (fun H locs hI => ?_)
  obtain ⟨h4, hf⟩ := chk_s hf
  cases hf
  exact g_zret hx hb hr hlk hI (isB_n h4) (dc tbX7_isSide_k 5 rfl)
theorem cs_X7_isSide : csF yX7_isSide cX7_isSide 1 (some .boolean) 1 := ⟨q_t8_220, q_t1_11, q_t8_221, by decide +kernel⟩
def mX7_tellNow (k0 : Nat) (x1 : Int32) (M : Mem) : Option (Mem × Int32) := bnd (wr M k0 5 (0 : Int32)) (fun M1 => chk (okb x1 86) (some (M1, (rd M1 (k0 + 1) (x1).toNatClampNeg))))
set_option maxHeartbeats 4000000 in
set_option maxRecDepth 100000 in
theorem tX7_tellNow (l : Launch) {G : GT} {kd : Nat → Nat × Nat} {ad : Nat → Nat} {k0 : Nat} (hk0 : kModel kd k0) {x1 : Int32} {M : Mem} {MO : Mem} {vo : Int32} (hf : mX7_tellNow k0 x1 M = some (MO, vo)) (n : Nat) : Met l yX7_tellNow (Cond.code yX7_tellNow cX7_tellNow 2 (some .int) :: WA) (rmO 0 0 0) (Pg G kd ad n [.ref (ad k0), .int x1] M) (Qg G kd ad n MO (some (.int vo))) 0 0 (AS kd ad n) := by
  refine g_body (own := RX7) (by decide) rfl ?_ (Nat.le_of_ble_eq_true rfl)
  intro p e s m args below meth c C _ H locs ls hI hl
  obtain ⟨hx, hb, hml, hr, hown, hts, hlk, hK, hap, hsx⟩ := id C
  have hl : lv_has ls 2 [(0, .ref (ad k0)), (1, .int x1)] := hl
  unfold mX7_tellNow at hf
  refine lv_aload_n hx hb (dc tbX7_tellNow_k 0 rfl) rfl (lv_at hl 0 rfl) ?_
  refine lv_iconst (v := 0) hx hb (dc tbX7_tellNow_k 1 rfl) ic_0 ?_
  obtain ⟨M1, e2, hf⟩ := bnd_s hf
  refine gp7_5 hx hb hts hown hK hap hI hk0.1 q_t7_81 (dc tbX7_tellNow_k 2 rfl) e2 (fun H locs hI => ?_)
  refine lv_aload_n hx hb (dc tbX7_tellNow_k 3 rfl) rfl (lv_at hl 0 rfl) ?_
  refine gg7_0 hx hb hts hown hK hI hk0.1 q_t7_76 (dc tbX7_tellNow_k 4 rfl) ?_
  refine lv_iload_n hx hb (dc tbX7_tellNow_k 5 rfl) rfl (lv_at hl 1 rfl) ?_
  obtain ⟨h3, hf⟩ := chk_s hf
  refine g_iald hx hb hK hI hk0.2.1 (okb_in h3) (dc tbX7_tellNow_k 6 rfl) ?_
  cases hf
  exact g_iret hx hb hr hlk hI (dc tbX7_tellNow_k 7 rfl)
theorem cv_X7_tellNow : cvF RX7 yX7_tellNow cX7_tellNow 2 (some .int) 1 := ⟨q_t8_42, q_s4_4, q_t1_11, q_t8_43, by decide +kernel⟩
def mX7_bends (k0 : Nat) (M : Mem) : Option (Mem × Int32) := cal (mX7_tellNow k0 (0 : Int32) M) (fun M3 r2 => some (M3, r2))
set_option maxHeartbeats 4000000 in
set_option maxRecDepth 100000 in
theorem tX7_bends (l : Launch) {G : GT} {kd : Nat → Nat × Nat} {ad : Nat → Nat} {k0 : Nat} (hk0 : kModel kd k0) {M : Mem} {MO : Mem} {vo : Int32} (hf : mX7_bends k0 M = some (MO, vo)) (n : Nat) : Met l yX7_bends (Cond.code yX7_bends cX7_bends 1 (some .int) :: WA) (rmO 1 0 0) (Pg G kd ad n [.ref (ad k0)] M) (Qg G kd ad n MO (some (.int vo))) 0 0 (AS kd ad n) := by
  refine g_body (own := RX7) (by decide) rfl ?_ (Nat.le_of_ble_eq_true rfl)
  intro p e s m args below meth c C _ H locs ls hI hl
  obtain ⟨hx, hb, hml, hr, hown, hts, hlk, hK, hap, hsx⟩ := id C
  have hl : lv_has ls 1 [(0, .ref (ad k0))] := hl
  unfold mX7_bends at hf
  refine lv_aload_n hx hb (dc tbX7_bends_k 0 rfl) rfl (lv_at hl 0 rfl) ?_
  refine lv_iconst (v := 0) hx hb (dc tbX7_bends_k 1 rfl) ic_0 ?_
  obtain ⟨M3, r2, q1, hf⟩ := cal_s hf
  refine g_callVi hx hb hml hown hts hK hap hsx hI (tX7_tellNow l hk0 q1 H.size) cv_X7_tellNow q_t8_40 rfl rfl ⟨Nat.le_of_ble_eq_true rfl, Nat.le_of_ble_eq_true rfl⟩ hk0.1 (by simp) rfl rfl rfl hl.1 rfl (Nat.le_of_ble_eq_true rfl) (dc tbX7_bends_k 2 rfl) ⟨Nat.le_of_ble_eq_true rfl, Nat.le_of_ble_eq_true rfl⟩ (fun H locs hI => ?_)
  cases hf
  exact g_iret hx hb hr hlk hI (dc tbX7_bends_k 3 rfl)
theorem cv_X7_bends : cvF RX7 yX7_bends cX7_bends 1 (some .int) 0 := ⟨q_t8_37, q_t8_38, q_t1_11, q_t8_39, by decide +kernel⟩
def mX7_legs (k0 : Nat) (M : Mem) : Option (Mem × Int32) := cal (mX7_tellNow k0 (1 : Int32) M) (fun M3 r2 => some (M3, r2))
set_option maxHeartbeats 4000000 in
set_option maxRecDepth 100000 in
theorem tX7_legs (l : Launch) {G : GT} {kd : Nat → Nat × Nat} {ad : Nat → Nat} {k0 : Nat} (hk0 : kModel kd k0) {M : Mem} {MO : Mem} {vo : Int32} (hf : mX7_legs k0 M = some (MO, vo)) (n : Nat) : Met l yX7_legs (Cond.code yX7_legs cX7_legs 1 (some .int) :: WA) (rmO 1 0 0) (Pg G kd ad n [.ref (ad k0)] M) (Qg G kd ad n MO (some (.int vo))) 0 0 (AS kd ad n) := by
  refine g_body (own := RX7) (by decide) rfl ?_ (Nat.le_of_ble_eq_true rfl)
  intro p e s m args below meth c C _ H locs ls hI hl
  obtain ⟨hx, hb, hml, hr, hown, hts, hlk, hK, hap, hsx⟩ := id C
  have hl : lv_has ls 1 [(0, .ref (ad k0))] := hl
  unfold mX7_legs at hf
  refine lv_aload_n hx hb (dc tbX7_legs_k 0 rfl) rfl (lv_at hl 0 rfl) ?_
  refine lv_iconst (v := 1) hx hb (dc tbX7_legs_k 1 rfl) ic_1 ?_
  obtain ⟨M3, r2, q1, hf⟩ := cal_s hf
  refine g_callVi hx hb hml hown hts hK hap hsx hI (tX7_tellNow l hk0 q1 H.size) cv_X7_tellNow q_t8_40 rfl rfl ⟨Nat.le_of_ble_eq_true rfl, Nat.le_of_ble_eq_true rfl⟩ hk0.1 (by simp) rfl rfl rfl hl.1 rfl (Nat.le_of_ble_eq_true rfl) (dc tbX7_legs_k 2 rfl) ⟨Nat.le_of_ble_eq_true rfl, Nat.le_of_ble_eq_true rfl⟩ (fun H locs hI => ?_)
  cases hf
  exact g_iret hx hb hr hlk hI (dc tbX7_legs_k 3 rfl)
theorem cv_X7_legs : cvF RX7 yX7_legs cX7_legs 1 (some .int) 0 := ⟨q_t8_45, q_t8_46, q_t1_11, q_t8_47, by decide +kernel⟩
def mX7_leg (k0 : Nat) (x1 : Int32) (M : Mem) : Option (Mem × Int32) := cap (mX7_isLeg k0 x1 M) (fun r2 => cal (mX7_good k0 r2 M) (fun M6 r5 => ite2 (r5 = 0) (some (M6, (0 : Int32))) (chk (okb ((2 : Int32) + x1) 86) (some (M6, (rd M6 (k0 + 1) (((2 : Int32) + x1)).toNatClampNeg))))))
set_option maxHeartbeats 4000000 in
set_option maxRecDepth 100000 in
theorem tX7_leg (l : Launch) {G : GT} {kd : Nat → Nat × Nat} {ad : Nat → Nat} {k0 : Nat} (hk0 : kModel kd k0) {x1 : Int32} {M : Mem} {MO : Mem} {vo : Int32} (hf : mX7_leg k0 x1 M = some (MO, vo)) (n : Nat) : Met l yX7_leg (Cond.code yX7_leg cX7_leg 2 (some .int) :: WA) (rmO 2 0 0) (Pg G kd ad n [.ref (ad k0), .int x1] M) (Qg G kd ad n MO (some (.int vo))) 0 0 (AS kd ad n) := by
  refine g_body (own := RX7) (by decide) rfl ?_ (Nat.le_of_ble_eq_true rfl)
  intro p e s m args below meth c C _ H locs ls hI hl
  obtain ⟨hx, hb, hml, hr, hown, hts, hlk, hK, hap, hsx⟩ := id C
  have hl : lv_has ls 2 [(0, .ref (ad k0)), (1, .int x1)] := hl
  unfold mX7_leg at hf
  refine lv_aload_n hx hb (dc tbX7_leg_k 0 rfl) rfl (lv_at hl 0 rfl) ?_
  refine lv_aload_n hx hb (dc tbX7_leg_k 1 rfl) rfl (lv_at hl 0 rfl) ?_
  refine lv_iload_n hx hb (dc tbX7_leg_k 2 rfl) rfl (lv_at hl 1 rfl) ?_
  obtain ⟨r2, q1, hf⟩ := cap_s hf
  refine g_callVi hx hb hml hown hts hK hap hsx hI (tX7_isLeg l hk0 q1 H.size) cv_X7_isLeg q_t8_52 rfl rfl ⟨Nat.le_of_ble_eq_true rfl, Nat.le_of_ble_eq_true rfl⟩ hk0.1 (by simp) rfl rfl rfl hl.1 rfl (Nat.le_of_ble_eq_true rfl) (dc tbX7_leg_k 3 rfl) ⟨Nat.le_of_ble_eq_true rfl, Nat.le_of_ble_eq_true rfl⟩ (fun H locs hI => ?_)
  obtain ⟨M6, r5, q4, hf⟩ := cal_s hf
  refine g_callVi hx hb hml hown hts hK hap hsx hI (tX7_good l hk0 q4 H.size) cv_X7_good q_t8_56 rfl rfl ⟨Nat.le_of_ble_eq_true rfl, Nat.le_of_ble_eq_true rfl⟩ hk0.1 (by simp) rfl rfl rfl hl.1 rfl (Nat.le_of_ble_eq_true rfl) (dc tbX7_leg_k 4 rfl) ⟨Nat.le_of_ble_eq_true rfl, Nat.le_of_ble_eq_true rfl⟩ (fun H locs hI => ?_)
  refine lv_if_eq (tgt := 23) hx hb (dc tbX7_leg_k 5 rfl) rfl (fun c7 => ?_) (fun c7 => ?_)
  · have hf := ite_t c7 hf
    refine lv_iconst (v := 0) hx hb (dc tbX7_leg_k 13 rfl) ic_0 ?_
    cases hf
    exact g_iret hx hb hr hlk hI (dc tbX7_leg_k 14 rfl)
  · have hf := ite_f c7 hf
    refine lv_aload_n hx hb (dc tbX7_leg_k 6 rfl) rfl (lv_at hl 0 rfl) ?_
    refine gg7_0 hx hb hts hown hK hI hk0.1 q_t7_76 (dc tbX7_leg_k 7 rfl) ?_
    refine lv_iconst (v := 2) hx hb (dc tbX7_leg_k 8 rfl) ic_2 ?_
    refine lv_iload_n hx hb (dc tbX7_leg_k 9 rfl) rfl (lv_at hl 1 rfl) ?_
    refine lv_iadd hx hb (dc tbX7_leg_k 10 rfl) ?_
    obtain ⟨h8, hf⟩ := chk_s hf
    refine g_iald hx hb hK hI hk0.2.1 (okb_in h8) (dc tbX7_leg_k 11 rfl) ?_
    refine lv_goto (tgt := 24) hx hb (dc tbX7_leg_k 12 rfl) rfl ?_
    cases hf
    exact g_iret hx hb hr hlk hI (dc tbX7_leg_k 14 rfl)
theorem cv_X7_leg : cvF RX7 yX7_leg cX7_leg 2 (some .int) 1 := ⟨q_t8_49, q_t8_50, q_t1_11, q_t8_51, by decide +kernel⟩
def mX7_isUp (k0 : Nat) (x1 : Int32) (M : Mem) : Option (Mem × Int32) := cap (mX7_isBend k0 x1 M) (fun r2 => cal (mX7_good k0 r2 M) (fun M6 r5 => ite2 (r5 = 0) (some (M6, (0 : Int32))) (chk (okb ((11 : Int32) + x1) 86) (ite2 ((rd M6 (k0 + 1) (((11 : Int32) + x1)).toNatClampNeg) = (1 : Int32)) (some (M6, (1 : Int32))) (some (M6, (0 : Int32)))))))
set_option maxHeartbeats 4000000 in
set_option maxRecDepth 100000 in
theorem tX7_isUp (l : Launch) {G : GT} {kd : Nat → Nat × Nat} {ad : Nat → Nat} {k0 : Nat} (hk0 : kModel kd k0) {x1 : Int32} {M : Mem} {MO : Mem} {vo : Int32} (hf : mX7_isUp k0 x1 M = some (MO, vo)) (n : Nat) : Met l yX7_isUp (Cond.code yX7_isUp cX7_isUp 2 (some .boolean) :: WA) (rmO 2 0 0) (Pg G kd ad n [.ref (ad k0), .int x1] M) (Qg G kd ad n MO (some (.int vo))) 0 0 (AS kd ad n) := by
  refine g_body (own := RX7) (by decide) rfl ?_ (Nat.le_of_ble_eq_true rfl)
  intro p e s m args below meth c C _ H locs ls hI hl
  obtain ⟨hx, hb, hml, hr, hown, hts, hlk, hK, hap, hsx⟩ := id C
  have hl : lv_has ls 2 [(0, .ref (ad k0)), (1, .int x1)] := hl
  unfold mX7_isUp at hf
  refine lv_aload_n hx hb (dc tbX7_isUp_k 0 rfl) rfl (lv_at hl 0 rfl) ?_
  refine lv_aload_n hx hb (dc tbX7_isUp_k 1 rfl) rfl (lv_at hl 0 rfl) ?_
  refine lv_iload_n hx hb (dc tbX7_isUp_k 2 rfl) rfl (lv_at hl 1 rfl) ?_
  obtain ⟨r2, q1, hf⟩ := cap_s hf
  refine g_callVi hx hb hml hown hts hK hap hsx hI (tX7_isBend l hk0 q1 H.size) cv_X7_isBend q_t8_64 rfl rfl ⟨Nat.le_of_ble_eq_true rfl, Nat.le_of_ble_eq_true rfl⟩ hk0.1 (by simp) rfl rfl rfl hl.1 rfl (Nat.le_of_ble_eq_true rfl) (dc tbX7_isUp_k 3 rfl) ⟨Nat.le_of_ble_eq_true rfl, Nat.le_of_ble_eq_true rfl⟩ (fun H locs hI => ?_)
  obtain ⟨M6, r5, q4, hf⟩ := cal_s hf
  refine g_callVi hx hb hml hown hts hK hap hsx hI (tX7_good l hk0 q4 H.size) cv_X7_good q_t8_56 rfl rfl ⟨Nat.le_of_ble_eq_true rfl, Nat.le_of_ble_eq_true rfl⟩ hk0.1 (by simp) rfl rfl rfl hl.1 rfl (Nat.le_of_ble_eq_true rfl) (dc tbX7_isUp_k 4 rfl) ⟨Nat.le_of_ble_eq_true rfl, Nat.le_of_ble_eq_true rfl⟩ (fun H locs hI => ?_)
  refine lv_if_eq (tgt := 29) hx hb (dc tbX7_isUp_k 5 rfl) rfl (fun c7 => ?_) (fun c7 => ?_)
  · have hf := ite_t c7 hf
    refine lv_iconst (v := 0) hx hb (dc tbX7_isUp_k 16 rfl) ic_0 ?_
    cases hf
    exact g_zret hx hb hr hlk hI rfl (dc tbX7_isUp_k 17 rfl)
  · have hf := ite_f c7 hf
    refine lv_aload_n hx hb (dc tbX7_isUp_k 6 rfl) rfl (lv_at hl 0 rfl) ?_
    refine gg7_0 hx hb hts hown hK hI hk0.1 q_t7_76 (dc tbX7_isUp_k 7 rfl) ?_
    refine lv_bipush (v := 11) hx hb (dc tbX7_isUp_k 8 rfl) bp_11 ?_
    refine lv_iload_n hx hb (dc tbX7_isUp_k 9 rfl) rfl (lv_at hl 1 rfl) ?_
    refine lv_iadd hx hb (dc tbX7_isUp_k 10 rfl) ?_
    obtain ⟨h8, hf⟩ := chk_s hf
    refine g_iald hx hb hK hI hk0.2.1 (okb_in h8) (dc tbX7_isUp_k 11 rfl) ?_
    refine lv_iconst (v := 1) hx hb (dc tbX7_isUp_k 12 rfl) ic_1 ?_
    refine lv_icmp_ne (tgt := 29) hx hb (dc tbX7_isUp_k 13 rfl) rfl (fun c9 => ?_) (fun c9 => ?_)
    · have hf := ite_f c9 hf
      refine lv_iconst (v := 0) hx hb (dc tbX7_isUp_k 16 rfl) ic_0 ?_
      cases hf
      exact g_zret hx hb hr hlk hI rfl (dc tbX7_isUp_k 17 rfl)
    · have hf := ite_t c9 hf
      refine lv_iconst (v := 1) hx hb (dc tbX7_isUp_k 14 rfl) ic_1 ?_
      refine lv_goto (tgt := 30) hx hb (dc tbX7_isUp_k 15 rfl) rfl ?_
      cases hf
      exact g_zret hx hb hr hlk hI rfl (dc tbX7_isUp_k 17 rfl)
theorem cv_X7_isUp : cvF RX7 yX7_isUp cX7_isUp 2 (some .boolean) 1 := ⟨q_t8_61, q_t8_62, q_t1_11, q_t8_63, by decide +kernel⟩
def mX7_sumOfLegs_b4 (k0 : Nat) (M : Mem) (ih4 : Int32 → Int32 → Int32 → Option Int32) (x1 : Int32) (x2 : Int32) (x3 : Int32) : Option Int32 := ite2 (x1 ≤ x3) (some x2) (chk (okb ((2 : Int32) + x3) 86) (bnd ((x2 + (rd M (k0 + 1) (((2 : Int32) + x3)).toNatClampNeg))) (fun x2_19 => bnd (x3 + (1 : Int32)) (fun x3_20 => ih4 x1 x2_19 x3_20))))
set_option maxHeartbeats 4000000 in
set_option maxRecDepth 100000 in
theorem tX7_sumOfLegs_b4 {p : Program} {l : Launch} {e : Env} {s : State} {m : MethodId} {args : Array Value} {below : List Frame} {meth : Method} {c : Code} {G : GT} {kd : Nat → Nat × Nat} {ad : Nat → Nat} (C : Cx p s m args meth c cX7_sumOfLegs 4 (some .int) RX7 G kd ad) {k0 : Nat} (hk0 : kModel kd k0) {M : Mem} {vo : Int32} {ih4 : Int32 → Int32 → Int32 → Option Int32} (hih4 : ∀ (x1 : Int32) (x2 : Int32) (x3 : Int32), ih4 x1 x2 x3 = some vo → At p l e (rmO 0 0 0) s m args below meth c 0 0 (MQ below (Qg G kd ad s.heap.size M (some (.int vo))) args s 0 0 (AS kd ad s.heap.size)) G kd ad 4 4 [(0, .ref (ad k0)), (1, .int x1), (2, .int x2), (3, .int x3)] [] M) : ∀ (x1 : Int32) (x2 : Int32) (x3 : Int32), mX7_sumOfLegs_b4 k0 M ih4 x1 x2 x3 = some vo → At p l e (rmO 0 0 0) s m args below meth c 0 0 (MQ below (Qg G kd ad s.heap.size M (some (.int vo))) args s 0 0 (AS kd ad s.heap.size)) G kd ad 4 4 [(0, .ref (ad k0)), (1, .int x1), (2, .int x2), (3, .int x3)] [] M := by
  intro x1 x2 x3 hf H locs ls hI hl
  obtain ⟨hx, hb, hml, hr, hown, hts, hlk, hK, hap, hsx⟩ := id C
  unfold mX7_sumOfLegs_b4 at hf
  refine lv_iload_n hx hb (dc tbX7_sumOfLegs_k 4 rfl) rfl (lv_at hl 3 rfl) ?_
  refine lv_iload_n hx hb (dc tbX7_sumOfLegs_k 5 rfl) rfl (lv_at hl 1 rfl) ?_
  refine lv_icmp_ge (tgt := 26) hx hb (dc tbX7_sumOfLegs_k 6 rfl) rfl (fun c1 => ?_) (fun c1 => ?_)
  · have hf := ite_t c1 hf
    refine lv_iload_n hx hb (dc tbX7_sumOfLegs_k 18 rfl) rfl (lv_at hl 2 rfl) ?_
    cases hf
    exact g_iret hx hb hr hlk hI (dc tbX7_sumOfLegs_k 19 rfl)
  · have hf := ite_f c1 hf
    refine lv_iload_n hx hb (dc tbX7_sumOfLegs_k 7 rfl) rfl (lv_at hl 2 rfl) ?_
    refine lv_aload_n hx hb (dc tbX7_sumOfLegs_k 8 rfl) rfl (lv_at hl 0 rfl) ?_
    refine gg7_0 hx hb hts hown hK hI hk0.1 q_t7_76 (dc tbX7_sumOfLegs_k 9 rfl) ?_
    refine lv_iconst (v := 2) hx hb (dc tbX7_sumOfLegs_k 10 rfl) ic_2 ?_
    refine lv_iload_n hx hb (dc tbX7_sumOfLegs_k 11 rfl) rfl (lv_at hl 3 rfl) ?_
    refine lv_iadd hx hb (dc tbX7_sumOfLegs_k 12 rfl) ?_
    obtain ⟨h2, hf⟩ := chk_s hf
    refine g_iald hx hb hK hI hk0.2.1 (okb_in h2) (dc tbX7_sumOfLegs_k 13 rfl) ?_
    refine lv_iadd hx hb (dc tbX7_sumOfLegs_k 14 rfl) ?_
    obtain ⟨x2_19, e3, hf⟩ := bnd_s hf
    refine lv_ei e3 ?_
    refine lv_istore_n (lv' := [(2, .int x2_19), (0, .ref (ad k0)), (1, .int x1), (3, .int x3)]) hx hb (dc tbX7_sumOfLegs_k 15 rfl) rfl hl (by decide) rfl (fun ls hl => ?_)
    obtain ⟨x3_20, e4, hf⟩ := bnd_s hf
    refine lv_iinc (v := x3_20) (lv' := [(3, .int x3_20), (2, .int x2_19), (0, .ref (ad k0)), (1, .int x1)]) hx hb (dc tbX7_sumOfLegs_k 16 rfl) hl (k := 3) rfl (ii_e e4 ic_1) (by decide) rfl (fun ls hl => ?_)
    refine lv_goto (tgt := 4) hx hb (dc tbX7_sumOfLegs_k 17 rfl) rfl ?_
    exact hih4 x1 x2_19 x3_20 hf _ _ _ hI (lv_sub hl [2, 3, 1, 0] rfl)
def mX7_sumOfLegs_l4 (k0 : Nat) (M : Mem) : Nat → Int32 → Int32 → Int32 → Option Int32
  | 0 => fun _ _ _ => none
  | n + 1 => mX7_sumOfLegs_b4 k0 M (mX7_sumOfLegs_l4 k0 M n)
theorem tX7_sumOfLegs_l4 {p : Program} {l : Launch} {e : Env} {s : State} {m : MethodId} {args : Array Value} {below : List Frame} {meth : Method} {c : Code} {G : GT} {kd : Nat → Nat × Nat} {ad : Nat → Nat} (C : Cx p s m args meth c cX7_sumOfLegs 4 (some .int) RX7 G kd ad) {k0 : Nat} (hk0 : kModel kd k0) {M : Mem} {vo : Int32}   : ∀ (fuel : Nat) (x1 : Int32) (x2 : Int32) (x3 : Int32), mX7_sumOfLegs_l4 k0 M fuel x1 x2 x3 = some vo → At p l e (rmO 0 0 0) s m args below meth c 0 0 (MQ below (Qg G kd ad s.heap.size M (some (.int vo))) args s 0 0 (AS kd ad s.heap.size)) G kd ad 4 4 [(0, .ref (ad k0)), (1, .int x1), (2, .int x2), (3, .int x3)] [] M := by
  intro fuel
  induction fuel with
  | zero => intro x1 x2 x3 hf; cases hf
  | succ n IH => exact tX7_sumOfLegs_b4 C hk0 IH
def mX7_sumOfLegs (k0 : Nat) (x1 : Int32) (M : Mem) : Option Int32 := mX7_sumOfLegs_l4 k0 M 5000 x1 (0 : Int32) (0 : Int32)
set_option maxHeartbeats 4000000 in
set_option maxRecDepth 100000 in
theorem tX7_sumOfLegs (l : Launch) {G : GT} {kd : Nat → Nat × Nat} {ad : Nat → Nat} {k0 : Nat} (hk0 : kModel kd k0) {x1 : Int32} {M : Mem} {vo : Int32} (hf : mX7_sumOfLegs k0 x1 M = some vo) (n : Nat) : Met l yX7_sumOfLegs (Cond.code yX7_sumOfLegs cX7_sumOfLegs 4 (some .int) :: WA) (rmO 0 0 0) (Pg G kd ad n [.ref (ad k0), .int x1] M) (Qg G kd ad n M (some (.int vo))) 0 0 (AS kd ad n) := by
  refine g_body (own := RX7) (by decide) rfl ?_ (Nat.le_of_ble_eq_true rfl)
  intro p e s m args below meth c C _ H locs ls hI hl
  obtain ⟨hx, hb, hml, hr, hown, hts, hlk, hK, hap, hsx⟩ := id C
  have hl : lv_has ls 4 [(0, .ref (ad k0)), (1, .int x1)] := hl
  unfold mX7_sumOfLegs at hf
  refine lv_iconst (v := 0) hx hb (dc tbX7_sumOfLegs_k 0 rfl) ic_0 ?_
  refine lv_istore_n (lv' := [(2, .int (0 : Int32)), (0, .ref (ad k0)), (1, .int x1)]) hx hb (dc tbX7_sumOfLegs_k 1 rfl) rfl hl (by decide) rfl (fun ls hl => ?_)
  refine lv_iconst (v := 0) hx hb (dc tbX7_sumOfLegs_k 2 rfl) ic_0 ?_
  refine lv_istore_n (lv' := [(3, .int (0 : Int32)), (2, .int (0 : Int32)), (0, .ref (ad k0)), (1, .int x1)]) hx hb (dc tbX7_sumOfLegs_k 3 rfl) rfl hl (by decide) rfl (fun ls hl => ?_)
  exact tX7_sumOfLegs_l4 C hk0 5000 x1 (0 : Int32) (0 : Int32) hf _ _ _ hI (lv_sub hl [2, 3, 1, 0] rfl)
theorem cv_X7_sumOfLegs : cvF RX7 yX7_sumOfLegs cX7_sumOfLegs 4 (some .int) 1 := ⟨q_t8_85, q_s4_9, q_t1_11, q_t8_86, by decide +kernel⟩
def mX7_deductionNow (k0 : Nat) (M : Mem) : Option UInt64 := chk (okb (36 : Int32) 86) (bnd ((FP.i2d (rd M (k0 + 1) ((36 : Int32)).toNatClampNeg))) (fun x1_8 => chk (okb (37 : Int32) 86) (bnd ((FP.i2d (rd M (k0 + 1) ((37 : Int32)).toNatClampNeg))) (fun x3_17 => chk (okb (38 : Int32) 86) (bnd ((FP.i2d (rd M (k0 + 1) ((38 : Int32)).toNatClampNeg))) (fun x5_26 => chk (n64b (FP.dadd x3_17 x1_8)) (chk (n64b (FP.dmul (4611686018427387904 : UInt64) (FP.dadd x3_17 x1_8))) (chk (n64b (FP.ddiv x5_26 (4636737291354636288 : UInt64))) (chk (n64b (FP.dmul (FP.ddiv x5_26 (4636737291354636288 : UInt64)) x1_8)) (chk (n64b (FP.dadd x3_17 (FP.dmul (FP.ddiv x5_26 (4636737291354636288 : UInt64)) x1_8))) (chk (n64b (FP.dmul (4609753073467320487 : UInt64) (FP.dadd x3_17 (FP.dmul (FP.ddiv x5_26 (4636737291354636288 : UInt64)) x1_8)))) (chk (n64b (FP.dsub (FP.dmul (4611686018427387904 : UInt64) (FP.dadd x3_17 x1_8)) (FP.dmul (4609753073467320487 : UInt64) (FP.dadd x3_17 (FP.dmul (FP.ddiv x5_26 (4636737291354636288 : UInt64)) x1_8))))) (some (FP.dsub (FP.dmul (4611686018427387904 : UInt64) (FP.dadd x3_17 x1_8)) (FP.dmul (4609753073467320487 : UInt64) (FP.dadd x3_17 (FP.dmul (FP.ddiv x5_26 (4636737291354636288 : UInt64)) x1_8)))))))))))))))))
set_option maxHeartbeats 4000000 in
set_option maxRecDepth 100000 in
theorem tX7_deductionNow (l : Launch) {G : GT} {kd : Nat → Nat × Nat} {ad : Nat → Nat} {k0 : Nat} (hk0 : kModel kd k0) {M : Mem} {vo : UInt64} (hf : mX7_deductionNow k0 M = some vo) (n : Nat) : Met l yX7_deductionNow (Cond.code yX7_deductionNow cX7_deductionNow 7 (some .double) :: WA) (rmO 0 0 0) (Pg G kd ad n [.ref (ad k0)] M) (Qg G kd ad n M (some (.double vo))) 0 0 (AS kd ad n) := by
  refine g_body (own := RX7) (by decide) rfl ?_ (Nat.le_of_ble_eq_true rfl)
  intro p e s m args below meth c C _ H locs ls hI hl
  obtain ⟨hx, hb, hml, hr, hown, hts, hlk, hK, hap, hsx⟩ := id C
  have hl : lv_has ls 7 [(0, .ref (ad k0))] := hl
  unfold mX7_deductionNow at hf
  refine lv_aload_n hx hb (dc tbX7_deductionNow_k 0 rfl) rfl (lv_at hl 0 rfl) ?_
  refine gg7_0 hx hb hts hown hK hI hk0.1 q_t7_76 (dc tbX7_deductionNow_k 1 rfl) ?_
  refine lv_bipush (v := 36) hx hb (dc tbX7_deductionNow_k 2 rfl) bp_36 ?_
  obtain ⟨h1, hf⟩ := chk_s hf
  refine g_iald hx hb hK hI hk0.2.1 (okb_in h1) (dc tbX7_deductionNow_k 3 rfl) ?_
  refine lv_i2d hx hb (dc tbX7_deductionNow_k 4 rfl) ?_
  obtain ⟨x1_8, e2, hf⟩ := bnd_s hf
  refine lv_ed e2 ?_
  refine lv_dstore_n (lv' := [(1, .double x1_8), (0, .ref (ad k0))]) hx hb (dc tbX7_deductionNow_k 5 rfl) rfl hl (by decide) rfl (fun ls hl => ?_)
  refine lv_aload_n hx hb (dc tbX7_deductionNow_k 6 rfl) rfl (lv_at hl 1 rfl) ?_
  refine gg7_0 hx hb hts hown hK hI hk0.1 q_t7_76 (dc tbX7_deductionNow_k 7 rfl) ?_
  refine lv_bipush (v := 37) hx hb (dc tbX7_deductionNow_k 8 rfl) bp_37 ?_
  obtain ⟨h3, hf⟩ := chk_s hf
  refine g_iald hx hb hK hI hk0.2.1 (okb_in h3) (dc tbX7_deductionNow_k 9 rfl) ?_
  refine lv_i2d hx hb (dc tbX7_deductionNow_k 10 rfl) ?_
  obtain ⟨x3_17, e4, hf⟩ := bnd_s hf
  refine lv_ed e4 ?_
  refine lv_dstore_n (lv' := [(3, .double x3_17), (1, .double x1_8), (0, .ref (ad k0))]) hx hb (dc tbX7_deductionNow_k 11 rfl) rfl hl (by decide) rfl (fun ls hl => ?_)
  refine lv_aload_n hx hb (dc tbX7_deductionNow_k 12 rfl) rfl (lv_at hl 2 rfl) ?_
  refine gg7_0 hx hb hts hown hK hI hk0.1 q_t7_76 (dc tbX7_deductionNow_k 13 rfl) ?_
  refine lv_bipush (v := 38) hx hb (dc tbX7_deductionNow_k 14 rfl) bp_38 ?_
  obtain ⟨h5, hf⟩ := chk_s hf
  refine g_iald hx hb hK hI hk0.2.1 (okb_in h5) (dc tbX7_deductionNow_k 15 rfl) ?_
  refine lv_i2d hx hb (dc tbX7_deductionNow_k 16 rfl) ?_
  obtain ⟨x5_26, e6, hf⟩ := bnd_s hf
  refine lv_ed e6 ?_
  refine lv_dstore (lv' := [(5, .double x5_26), (3, .double x3_17), (1, .double x1_8), (0, .ref (ad k0))]) hx hb (dc tbX7_deductionNow_k 17 rfl) hl (by decide) rfl (fun ls hl => ?_)
  refine lv_ldc2d hx hb hown (hts _ q_t8_76) (dc tbX7_deductionNow_k 18 rfl) ?_
  refine lv_dload_n hx hb (dc tbX7_deductionNow_k 19 rfl) rfl (lv_at hl 1 rfl) ?_
  refine lv_dload_n hx hb (dc tbX7_deductionNow_k 20 rfl) rfl (lv_at hl 2 rfl) ?_
  obtain ⟨h7, hf⟩ := chk_s hf
  refine lv_dadd hx hb (dc tbX7_deductionNow_k 21 rfl) (n64_b h7) ?_
  obtain ⟨h8, hf⟩ := chk_s hf
  refine lv_dmul hx hb (dc tbX7_deductionNow_k 22 rfl) (n64_b h8) ?_
  refine lv_ldc2d hx hb hown (hts _ q_t8_77) (dc tbX7_deductionNow_k 23 rfl) ?_
  refine lv_dload_n hx hb (dc tbX7_deductionNow_k 24 rfl) rfl (lv_at hl 1 rfl) ?_
  refine lv_dload hx hb (dc tbX7_deductionNow_k 25 rfl) (lv_at hl 0 rfl) ?_
  refine lv_ldc2d hx hb hown (hts _ q_t8_78) (dc tbX7_deductionNow_k 26 rfl) ?_
  obtain ⟨h9, hf⟩ := chk_s hf
  refine lv_ddiv hx hb (dc tbX7_deductionNow_k 27 rfl) (n64_b h9) ?_
  refine lv_dload_n hx hb (dc tbX7_deductionNow_k 28 rfl) rfl (lv_at hl 2 rfl) ?_
  obtain ⟨h10, hf⟩ := chk_s hf
  refine lv_dmul hx hb (dc tbX7_deductionNow_k 29 rfl) (n64_b h10) ?_
  obtain ⟨h11, hf⟩ := chk_s hf
  refine lv_dadd hx hb (dc tbX7_deductionNow_k 30 rfl) (n64_b h11) ?_
  obtain ⟨h12, hf⟩ := chk_s hf
  refine lv_dmul hx hb (dc tbX7_deductionNow_k 31 rfl) (n64_b h12) ?_
  obtain ⟨h13, hf⟩ := chk_s hf
  refine lv_dsub hx hb (dc tbX7_deductionNow_k 32 rfl) (n64_b h13) ?_
  cases hf
  exact g_dret hx hb hr hlk hI (dc tbX7_deductionNow_k 33 rfl)
theorem cv_X7_deductionNow : cvF RX7 yX7_deductionNow cX7_deductionNow 7 (some .double) 0 := ⟨q_t8_74, q_s4_8, q_t1_11, q_t8_75, by decide +kernel⟩
def mX7_deduction (k0 : Nat) (M : Mem) : Option (Mem × UInt64) := bnd (wr M k0 5 (0 : Int32)) (fun M1 => cap (mX7_deductionNow k0 M1) (fun r4 => some (M1, r4)))
set_option maxHeartbeats 4000000 in
set_option maxRecDepth 100000 in
theorem tX7_deduction (l : Launch) {G : GT} {kd : Nat → Nat × Nat} {ad : Nat → Nat} {k0 : Nat} (hk0 : kModel kd k0) {M : Mem} {MO : Mem} {vo : UInt64} (hf : mX7_deduction k0 M = some (MO, vo)) (n : Nat) : Met l yX7_deduction (Cond.code yX7_deduction cX7_deduction 1 (some .double) :: WA) (rmO 1 0 0) (Pg G kd ad n [.ref (ad k0)] M) (Qg G kd ad n MO (some (.double vo))) 0 0 (AS kd ad n) := by
  refine g_body (own := RX7) (by decide) rfl ?_ (Nat.le_of_ble_eq_true rfl)
  intro p e s m args below meth c C _ H locs ls hI hl
  obtain ⟨hx, hb, hml, hr, hown, hts, hlk, hK, hap, hsx⟩ := id C
  have hl : lv_has ls 1 [(0, .ref (ad k0))] := hl
  unfold mX7_deduction at hf
  refine lv_aload_n hx hb (dc tbX7_deduction_k 0 rfl) rfl (lv_at hl 0 rfl) ?_
  refine lv_iconst (v := 0) hx hb (dc tbX7_deduction_k 1 rfl) ic_0 ?_
  obtain ⟨M1, e2, hf⟩ := bnd_s hf
  refine gp7_5 hx hb hts hown hK hap hI hk0.1 q_t7_81 (dc tbX7_deduction_k 2 rfl) e2 (fun H locs hI => ?_)
  refine lv_aload_n hx hb (dc tbX7_deduction_k 3 rfl) rfl (lv_at hl 0 rfl) ?_
  obtain ⟨r4, q3, hf⟩ := cap_s hf
  refine g_callVd hx hb hml hown hts hK hap hsx hI (tX7_deductionNow l hk0 q3 H.size) cv_X7_deductionNow q_t8_72 rfl rfl ⟨Nat.le_of_ble_eq_true rfl, Nat.le_of_ble_eq_true rfl⟩ hk0.1 (by simp) rfl rfl rfl hl.1 rfl (Nat.le_of_ble_eq_true rfl) (dc tbX7_deduction_k 4 rfl) ⟨Nat.le_of_ble_eq_true rfl, Nat.le_of_ble_eq_true rfl⟩ (fun H locs hI => ?_)
  cases hf
  exact g_dret hx hb hr hlk hI (dc tbX7_deduction_k 5 rfl)
theorem cv_X7_deduction : cvF RX7 yX7_deduction cX7_deduction 1 (some .double) 0 := ⟨q_t8_69, q_t8_70, q_t1_11, q_t8_71, by decide +kernel⟩
def mX7_flatLength (k0 : Nat) (M : Mem) : Option (Mem × UInt64) := bnd (wr M k0 5 (0 : Int32)) (fun M1 => chk (okb (1 : Int32) 86) (ite2 ((rd M1 (k0 + 1) ((1 : Int32)).toNatClampNeg) = 0) (some (M1, FP.dconst0)) (chk (okb (1 : Int32) 86) (cap (mX7_sumOfLegs k0 (rd M1 (k0 + 1) ((1 : Int32)).toNatClampNeg) M1) (fun r7 => chk (okb (0 : Int32) 86) (cap (mX7_deductionNow k0 M1) (fun r11 => chk (n64b (FP.dmul (FP.i2d (rd M1 (k0 + 1) ((0 : Int32)).toNatClampNeg)) r11)) (chk (n64b (FP.dsub (FP.i2d r7) (FP.dmul (FP.i2d (rd M1 (k0 + 1) ((0 : Int32)).toNatClampNeg)) r11))) (some (M1, (FP.dsub (FP.i2d r7) (FP.dmul (FP.i2d (rd M1 (k0 + 1) ((0 : Int32)).toNatClampNeg)) r11))))))))))))
set_option maxHeartbeats 4000000 in
set_option maxRecDepth 100000 in
theorem tX7_flatLength (l : Launch) {G : GT} {kd : Nat → Nat × Nat} {ad : Nat → Nat} {k0 : Nat} (hk0 : kModel kd k0) {M : Mem} {MO : Mem} {vo : UInt64} (hf : mX7_flatLength k0 M = some (MO, vo)) (n : Nat) : Met l yX7_flatLength (Cond.code yX7_flatLength cX7_flatLength 1 (some .double) :: WA) (rmO 1 0 0) (Pg G kd ad n [.ref (ad k0)] M) (Qg G kd ad n MO (some (.double vo))) 0 0 (AS kd ad n) := by
  refine g_body (own := RX7) (by decide) rfl ?_ (Nat.le_of_ble_eq_true rfl)
  intro p e s m args below meth c C _ H locs ls hI hl
  obtain ⟨hx, hb, hml, hr, hown, hts, hlk, hK, hap, hsx⟩ := id C
  have hl : lv_has ls 1 [(0, .ref (ad k0))] := hl
  unfold mX7_flatLength at hf
  refine lv_aload_n hx hb (dc tbX7_flatLength_k 0 rfl) rfl (lv_at hl 0 rfl) ?_
  refine lv_iconst (v := 0) hx hb (dc tbX7_flatLength_k 1 rfl) ic_0 ?_
  obtain ⟨M1, e2, hf⟩ := bnd_s hf
  refine gp7_5 hx hb hts hown hK hap hI hk0.1 q_t7_81 (dc tbX7_flatLength_k 2 rfl) e2 (fun H locs hI => ?_)
  refine lv_aload_n hx hb (dc tbX7_flatLength_k 3 rfl) rfl (lv_at hl 0 rfl) ?_
  refine gg7_0 hx hb hts hown hK hI hk0.1 q_t7_76 (dc tbX7_flatLength_k 4 rfl) ?_
  refine lv_iconst (v := 1) hx hb (dc tbX7_flatLength_k 5 rfl) ic_1 ?_
  obtain ⟨h3, hf⟩ := chk_s hf
  refine g_iald hx hb hK hI hk0.2.1 (okb_in h3) (dc tbX7_flatLength_k 6 rfl) ?_
  refine lv_if_ne (tgt := 16) hx hb (dc tbX7_flatLength_k 7 rfl) rfl (fun c4 => ?_) (fun c4 => ?_)
  · have hf := ite_f c4 hf
    refine lv_aload_n hx hb (dc tbX7_flatLength_k 10 rfl) rfl (lv_at hl 0 rfl) ?_
    refine lv_aload_n hx hb (dc tbX7_flatLength_k 11 rfl) rfl (lv_at hl 0 rfl) ?_
    refine gg7_0 hx hb hts hown hK hI hk0.1 q_t7_76 (dc tbX7_flatLength_k 12 rfl) ?_
    refine lv_iconst (v := 1) hx hb (dc tbX7_flatLength_k 13 rfl) ic_1 ?_
    obtain ⟨h5, hf⟩ := chk_s hf
    refine g_iald hx hb hK hI hk0.2.1 (okb_in h5) (dc tbX7_flatLength_k 14 rfl) ?_
    obtain ⟨r7, q6, hf⟩ := cap_s hf
    refine g_callVi hx hb hml hown hts hK hap hsx hI (tX7_sumOfLegs l hk0 q6 H.size) cv_X7_sumOfLegs q_t8_83 rfl rfl ⟨Nat.le_of_ble_eq_true rfl, Nat.le_of_ble_eq_true rfl⟩ hk0.1 (by simp) rfl rfl rfl hl.1 rfl (Nat.le_of_ble_eq_true rfl) (dc tbX7_flatLength_k 15 rfl) ⟨Nat.le_of_ble_eq_true rfl, Nat.le_of_ble_eq_true rfl⟩ (fun H locs hI => ?_)
    refine lv_i2d hx hb (dc tbX7_flatLength_k 16 rfl) ?_
    refine lv_aload_n hx hb (dc tbX7_flatLength_k 17 rfl) rfl (lv_at hl 0 rfl) ?_
    refine gg7_0 hx hb hts hown hK hI hk0.1 q_t7_76 (dc tbX7_flatLength_k 18 rfl) ?_
    refine lv_iconst (v := 0) hx hb (dc tbX7_flatLength_k 19 rfl) ic_0 ?_
    obtain ⟨h9, hf⟩ := chk_s hf
    refine g_iald hx hb hK hI hk0.2.1 (okb_in h9) (dc tbX7_flatLength_k 20 rfl) ?_
    refine lv_i2d hx hb (dc tbX7_flatLength_k 21 rfl) ?_
    refine lv_aload_n hx hb (dc tbX7_flatLength_k 22 rfl) rfl (lv_at hl 0 rfl) ?_
    obtain ⟨r11, q10, hf⟩ := cap_s hf
    refine g_callVd hx hb hml hown hts hK hap hsx hI (tX7_deductionNow l hk0 q10 H.size) cv_X7_deductionNow q_t8_72 rfl rfl ⟨Nat.le_of_ble_eq_true rfl, Nat.le_of_ble_eq_true rfl⟩ hk0.1 (by simp) rfl rfl rfl hl.1 rfl (Nat.le_of_ble_eq_true rfl) (dc tbX7_flatLength_k 23 rfl) ⟨Nat.le_of_ble_eq_true rfl, Nat.le_of_ble_eq_true rfl⟩ (fun H locs hI => ?_)
    obtain ⟨h13, hf⟩ := chk_s hf
    refine lv_dmul hx hb (dc tbX7_flatLength_k 24 rfl) (n64_b h13) ?_
    obtain ⟨h14, hf⟩ := chk_s hf
    refine lv_dsub hx hb (dc tbX7_flatLength_k 25 rfl) (n64_b h14) ?_
    cases hf
    exact g_dret hx hb hr hlk hI (dc tbX7_flatLength_k 26 rfl)
  · have hf := ite_t c4 hf
    refine lv_dconst0 hx hb (dc tbX7_flatLength_k 8 rfl) ?_
    cases hf
    exact g_dret hx hb hr hlk hI (dc tbX7_flatLength_k 9 rfl)
theorem cv_X7_flatLength : cvF RX7 yX7_flatLength cX7_flatLength 1 (some .double) 0 := ⟨q_t8_80, q_t8_81, q_t1_11, q_t8_82, by decide +kernel⟩
def mX7_linePlace (k0 : Nat) (x1 : Int32) (M : Mem) : Option (Mem × UInt64) := cap (mX7_isBend k0 x1 M) (fun r2 => cal (mX7_good k0 r2 M) (fun M6 r5 => ite2 (r5 = 0) (some (M6, FP.dconst0)) (cap (mX7_sumOfLegs k0 (x1 + (1 : Int32)) M6) (fun r9 => chk (n64b (FP.dadd (FP.i2d x1) (4602678819172646912 : UInt64))) (cap (mX7_deductionNow k0 M6) (fun r13 => chk (n64b (FP.dmul (FP.dadd (FP.i2d x1) (4602678819172646912 : UInt64)) r13)) (chk (n64b (FP.dsub (FP.i2d r9) (FP.dmul (FP.dadd (FP.i2d x1) (4602678819172646912 : UInt64)) r13))) (some (M6, (FP.dsub (FP.i2d r9) (FP.dmul (FP.dadd (FP.i2d x1) (4602678819172646912 : UInt64)) r13)))))))))))
set_option maxHeartbeats 4000000 in
set_option maxRecDepth 100000 in
theorem tX7_linePlace (l : Launch) {G : GT} {kd : Nat → Nat × Nat} {ad : Nat → Nat} {k0 : Nat} (hk0 : kModel kd k0) {x1 : Int32} {M : Mem} {MO : Mem} {vo : UInt64} (hf : mX7_linePlace k0 x1 M = some (MO, vo)) (n : Nat) : Met l yX7_linePlace (Cond.code yX7_linePlace cX7_linePlace 2 (some .double) :: WA) (rmO 2 0 0) (Pg G kd ad n [.ref (ad k0), .int x1] M) (Qg G kd ad n MO (some (.double vo))) 0 0 (AS kd ad n) := by
  refine g_body (own := RX7) (by decide) rfl ?_ (Nat.le_of_ble_eq_true rfl)
  intro p e s m args below meth c C _ H locs ls hI hl
  obtain ⟨hx, hb, hml, hr, hown, hts, hlk, hK, hap, hsx⟩ := id C
  have hl : lv_has ls 2 [(0, .ref (ad k0)), (1, .int x1)] := hl
  unfold mX7_linePlace at hf
  refine lv_aload_n hx hb (dc tbX7_linePlace_k 0 rfl) rfl (lv_at hl 0 rfl) ?_
  refine lv_aload_n hx hb (dc tbX7_linePlace_k 1 rfl) rfl (lv_at hl 0 rfl) ?_
  refine lv_iload_n hx hb (dc tbX7_linePlace_k 2 rfl) rfl (lv_at hl 1 rfl) ?_
  obtain ⟨r2, q1, hf⟩ := cap_s hf
  refine g_callVi hx hb hml hown hts hK hap hsx hI (tX7_isBend l hk0 q1 H.size) cv_X7_isBend q_t8_64 rfl rfl ⟨Nat.le_of_ble_eq_true rfl, Nat.le_of_ble_eq_true rfl⟩ hk0.1 (by simp) rfl rfl rfl hl.1 rfl (Nat.le_of_ble_eq_true rfl) (dc tbX7_linePlace_k 3 rfl) ⟨Nat.le_of_ble_eq_true rfl, Nat.le_of_ble_eq_true rfl⟩ (fun H locs hI => ?_)
  obtain ⟨M6, r5, q4, hf⟩ := cal_s hf
  refine g_callVi hx hb hml hown hts hK hap hsx hI (tX7_good l hk0 q4 H.size) cv_X7_good q_t8_56 rfl rfl ⟨Nat.le_of_ble_eq_true rfl, Nat.le_of_ble_eq_true rfl⟩ hk0.1 (by simp) rfl rfl rfl hl.1 rfl (Nat.le_of_ble_eq_true rfl) (dc tbX7_linePlace_k 4 rfl) ⟨Nat.le_of_ble_eq_true rfl, Nat.le_of_ble_eq_true rfl⟩ (fun H locs hI => ?_)
  refine lv_if_ne (tgt := 14) hx hb (dc tbX7_linePlace_k 5 rfl) rfl (fun c7 => ?_) (fun c7 => ?_)
  · have hf := ite_f c7 hf
    refine lv_aload_n hx hb (dc tbX7_linePlace_k 8 rfl) rfl (lv_at hl 0 rfl) ?_
    refine lv_iload_n hx hb (dc tbX7_linePlace_k 9 rfl) rfl (lv_at hl 1 rfl) ?_
    refine lv_iconst (v := 1) hx hb (dc tbX7_linePlace_k 10 rfl) ic_1 ?_
    refine lv_iadd hx hb (dc tbX7_linePlace_k 11 rfl) ?_
    obtain ⟨r9, q8, hf⟩ := cap_s hf
    refine g_callVi hx hb hml hown hts hK hap hsx hI (tX7_sumOfLegs l hk0 q8 H.size) cv_X7_sumOfLegs q_t8_83 rfl rfl ⟨Nat.le_of_ble_eq_true rfl, Nat.le_of_ble_eq_true rfl⟩ hk0.1 (by simp) rfl rfl rfl hl.1 rfl (Nat.le_of_ble_eq_true rfl) (dc tbX7_linePlace_k 12 rfl) ⟨Nat.le_of_ble_eq_true rfl, Nat.le_of_ble_eq_true rfl⟩ (fun H locs hI => ?_)
    refine lv_i2d hx hb (dc tbX7_linePlace_k 13 rfl) ?_
    refine lv_iload_n hx hb (dc tbX7_linePlace_k 14 rfl) rfl (lv_at hl 1 rfl) ?_
    refine lv_i2d hx hb (dc tbX7_linePlace_k 15 rfl) ?_
    refine lv_ldc2d hx hb hown (hts _ q_t8_91) (dc tbX7_linePlace_k 16 rfl) ?_
    obtain ⟨h11, hf⟩ := chk_s hf
    refine lv_dadd hx hb (dc tbX7_linePlace_k 17 rfl) (n64_b h11) ?_
    refine lv_aload_n hx hb (dc tbX7_linePlace_k 18 rfl) rfl (lv_at hl 0 rfl) ?_
    obtain ⟨r13, q12, hf⟩ := cap_s hf
    refine g_callVd hx hb hml hown hts hK hap hsx hI (tX7_deductionNow l hk0 q12 H.size) cv_X7_deductionNow q_t8_72 rfl rfl ⟨Nat.le_of_ble_eq_true rfl, Nat.le_of_ble_eq_true rfl⟩ hk0.1 (by simp) rfl rfl rfl hl.1 rfl (Nat.le_of_ble_eq_true rfl) (dc tbX7_linePlace_k 19 rfl) ⟨Nat.le_of_ble_eq_true rfl, Nat.le_of_ble_eq_true rfl⟩ (fun H locs hI => ?_)
    obtain ⟨h15, hf⟩ := chk_s hf
    refine lv_dmul hx hb (dc tbX7_linePlace_k 20 rfl) (n64_b h15) ?_
    obtain ⟨h16, hf⟩ := chk_s hf
    refine lv_dsub hx hb (dc tbX7_linePlace_k 21 rfl) (n64_b h16) ?_
    cases hf
    exact g_dret hx hb hr hlk hI (dc tbX7_linePlace_k 22 rfl)
  · have hf := ite_t c7 hf
    refine lv_dconst0 hx hb (dc tbX7_linePlace_k 6 rfl) ?_
    cases hf
    exact g_dret hx hb hr hlk hI (dc tbX7_linePlace_k 7 rfl)
theorem cv_X7_linePlace : cvF RX7 yX7_linePlace cX7_linePlace 2 (some .double) 1 := ⟨q_t8_88, q_t8_89, q_t1_11, q_t8_90, by decide +kernel⟩
def mX7_ratioNow (k0 : Nat) (M : Mem) : Option UInt64 := chk (okb (37 : Int32) 86) (chk (n64b (FP.dmul (4621819117588971520 : UInt64) (FP.i2d (rd M (k0 + 1) ((37 : Int32)).toNatClampNeg)))) (chk (okb (36 : Int32) 86) (chk (n64b (FP.ddiv (FP.dmul (4621819117588971520 : UInt64) (FP.i2d (rd M (k0 + 1) ((37 : Int32)).toNatClampNeg))) (FP.i2d (rd M (k0 + 1) ((36 : Int32)).toNatClampNeg)))) (some (FP.ddiv (FP.dmul (4621819117588971520 : UInt64) (FP.i2d (rd M (k0 + 1) ((37 : Int32)).toNatClampNeg))) (FP.i2d (rd M (k0 + 1) ((36 : Int32)).toNatClampNeg)))))))
set_option maxHeartbeats 4000000 in
set_option maxRecDepth 100000 in
theorem tX7_ratioNow (l : Launch) {G : GT} {kd : Nat → Nat × Nat} {ad : Nat → Nat} {k0 : Nat} (hk0 : kModel kd k0) {M : Mem} {vo : UInt64} (hf : mX7_ratioNow k0 M = some vo) (n : Nat) : Met l yX7_ratioNow (Cond.code yX7_ratioNow cX7_ratioNow 1 (some .double) :: WA) (rmO 0 0 0) (Pg G kd ad n [.ref (ad k0)] M) (Qg G kd ad n M (some (.double vo))) 0 0 (AS kd ad n) := by
  refine g_body (own := RX7) (by decide) rfl ?_ (Nat.le_of_ble_eq_true rfl)
  intro p e s m args below meth c C _ H locs ls hI hl
  obtain ⟨hx, hb, hml, hr, hown, hts, hlk, hK, hap, hsx⟩ := id C
  have hl : lv_has ls 1 [(0, .ref (ad k0))] := hl
  unfold mX7_ratioNow at hf
  refine lv_ldc2d hx hb hown (hts _ q_t8_100) (dc tbX7_ratioNow_k 0 rfl) ?_
  refine lv_aload_n hx hb (dc tbX7_ratioNow_k 1 rfl) rfl (lv_at hl 0 rfl) ?_
  refine gg7_0 hx hb hts hown hK hI hk0.1 q_t7_76 (dc tbX7_ratioNow_k 2 rfl) ?_
  refine lv_bipush (v := 37) hx hb (dc tbX7_ratioNow_k 3 rfl) bp_37 ?_
  obtain ⟨h1, hf⟩ := chk_s hf
  refine g_iald hx hb hK hI hk0.2.1 (okb_in h1) (dc tbX7_ratioNow_k 4 rfl) ?_
  refine lv_i2d hx hb (dc tbX7_ratioNow_k 5 rfl) ?_
  obtain ⟨h2, hf⟩ := chk_s hf
  refine lv_dmul hx hb (dc tbX7_ratioNow_k 6 rfl) (n64_b h2) ?_
  refine lv_aload_n hx hb (dc tbX7_ratioNow_k 7 rfl) rfl (lv_at hl 0 rfl) ?_
  refine gg7_0 hx hb hts hown hK hI hk0.1 q_t7_76 (dc tbX7_ratioNow_k 8 rfl) ?_
  refine lv_bipush (v := 36) hx hb (dc tbX7_ratioNow_k 9 rfl) bp_36 ?_
  obtain ⟨h3, hf⟩ := chk_s hf
  refine g_iald hx hb hK hI hk0.2.1 (okb_in h3) (dc tbX7_ratioNow_k 10 rfl) ?_
  refine lv_i2d hx hb (dc tbX7_ratioNow_k 11 rfl) ?_
  obtain ⟨h4, hf⟩ := chk_s hf
  refine lv_ddiv hx hb (dc tbX7_ratioNow_k 12 rfl) (n64_b h4) ?_
  cases hf
  exact g_dret hx hb hr hlk hI (dc tbX7_ratioNow_k 13 rfl)
theorem cv_X7_ratioNow : cvF RX7 yX7_ratioNow cX7_ratioNow 1 (some .double) 0 := ⟨q_t8_98, q_s4_10, q_t1_11, q_t8_99, by decide +kernel⟩
def mX7_ratio (k0 : Nat) (M : Mem) : Option (Mem × UInt64) := bnd (wr M k0 5 (0 : Int32)) (fun M1 => cap (mX7_ratioNow k0 M1) (fun r4 => some (M1, r4)))
set_option maxHeartbeats 4000000 in
set_option maxRecDepth 100000 in
theorem tX7_ratio (l : Launch) {G : GT} {kd : Nat → Nat × Nat} {ad : Nat → Nat} {k0 : Nat} (hk0 : kModel kd k0) {M : Mem} {MO : Mem} {vo : UInt64} (hf : mX7_ratio k0 M = some (MO, vo)) (n : Nat) : Met l yX7_ratio (Cond.code yX7_ratio cX7_ratio 1 (some .double) :: WA) (rmO 1 0 0) (Pg G kd ad n [.ref (ad k0)] M) (Qg G kd ad n MO (some (.double vo))) 0 0 (AS kd ad n) := by
  refine g_body (own := RX7) (by decide) rfl ?_ (Nat.le_of_ble_eq_true rfl)
  intro p e s m args below meth c C _ H locs ls hI hl
  obtain ⟨hx, hb, hml, hr, hown, hts, hlk, hK, hap, hsx⟩ := id C
  have hl : lv_has ls 1 [(0, .ref (ad k0))] := hl
  unfold mX7_ratio at hf
  refine lv_aload_n hx hb (dc tbX7_ratio_k 0 rfl) rfl (lv_at hl 0 rfl) ?_
  refine lv_iconst (v := 0) hx hb (dc tbX7_ratio_k 1 rfl) ic_0 ?_
  obtain ⟨M1, e2, hf⟩ := bnd_s hf
  refine gp7_5 hx hb hts hown hK hap hI hk0.1 q_t7_81 (dc tbX7_ratio_k 2 rfl) e2 (fun H locs hI => ?_)
  refine lv_aload_n hx hb (dc tbX7_ratio_k 3 rfl) rfl (lv_at hl 0 rfl) ?_
  obtain ⟨r4, q3, hf⟩ := cap_s hf
  refine g_callVd hx hb hml hown hts hK hap hsx hI (tX7_ratioNow l hk0 q3 H.size) cv_X7_ratioNow q_t8_96 rfl rfl ⟨Nat.le_of_ble_eq_true rfl, Nat.le_of_ble_eq_true rfl⟩ hk0.1 (by simp) rfl rfl rfl hl.1 rfl (Nat.le_of_ble_eq_true rfl) (dc tbX7_ratio_k 4 rfl) ⟨Nat.le_of_ble_eq_true rfl, Nat.le_of_ble_eq_true rfl⟩ (fun H locs hI => ?_)
  cases hf
  exact g_dret hx hb hr hlk hI (dc tbX7_ratio_k 5 rfl)
theorem cv_X7_ratio : cvF RX7 yX7_ratio cX7_ratio 1 (some .double) 0 := ⟨q_t8_93, q_t8_94, q_t1_11, q_t8_95, by decide +kernel⟩
def mX7_ratioOf (k0 : Nat) (x1 : Int32) (M : Mem) : Option UInt64 := chk (okb ((20 : Int32) + ((2 : Int32) * x1)) 86) (some (FP.i2d (rd M (k0 + 1) (((20 : Int32) + ((2 : Int32) * x1))).toNatClampNeg)))
set_option maxHeartbeats 4000000 in
set_option maxRecDepth 100000 in
theorem tX7_ratioOf (l : Launch) {G : GT} {kd : Nat → Nat × Nat} {ad : Nat → Nat} {k0 : Nat} (hk0 : kModel kd k0) {x1 : Int32} {M : Mem} {vo : UInt64} (hf : mX7_ratioOf k0 x1 M = some vo) (n : Nat) : Met l yX7_ratioOf (Cond.code yX7_ratioOf cX7_ratioOf 2 (some .double) :: WA) (rmO 0 0 0) (Pg G kd ad n [.ref (ad k0), .int x1] M) (Qg G kd ad n M (some (.double vo))) 0 0 (AS kd ad n) := by
  refine g_body (own := RX7) (by decide) rfl ?_ (Nat.le_of_ble_eq_true rfl)
  intro p e s m args below meth c C _ H locs ls hI hl
  obtain ⟨hx, hb, hml, hr, hown, hts, hlk, hK, hap, hsx⟩ := id C
  have hl : lv_has ls 2 [(0, .ref (ad k0)), (1, .int x1)] := hl
  unfold mX7_ratioOf at hf
  refine lv_aload_n hx hb (dc tbX7_ratioOf_k 0 rfl) rfl (lv_at hl 0 rfl) ?_
  refine gg7_0 hx hb hts hown hK hI hk0.1 q_t7_76 (dc tbX7_ratioOf_k 1 rfl) ?_
  refine lv_bipush (v := 20) hx hb (dc tbX7_ratioOf_k 2 rfl) bp_20 ?_
  refine lv_iconst (v := 2) hx hb (dc tbX7_ratioOf_k 3 rfl) ic_2 ?_
  refine lv_iload_n hx hb (dc tbX7_ratioOf_k 4 rfl) rfl (lv_at hl 1 rfl) ?_
  refine lv_imul hx hb (dc tbX7_ratioOf_k 5 rfl) ?_
  refine lv_iadd hx hb (dc tbX7_ratioOf_k 6 rfl) ?_
  obtain ⟨h1, hf⟩ := chk_s hf
  refine g_iald hx hb hK hI hk0.2.1 (okb_in h1) (dc tbX7_ratioOf_k 7 rfl) ?_
  refine lv_i2d hx hb (dc tbX7_ratioOf_k 8 rfl) ?_
  cases hf
  exact g_dret hx hb hr hlk hI (dc tbX7_ratioOf_k 9 rfl)
theorem cv_X7_ratioOf : cvF RX7 yX7_ratioOf cX7_ratioOf 2 (some .double) 1 := ⟨q_t8_111, q_s4_12, q_t1_11, q_t8_112, by decide +kernel⟩
def mX7_angleOf (k0 : Nat) (x1 : Int32) (M : Mem) : Option UInt64 := chk (okb (((20 : Int32) + ((2 : Int32) * x1)) + (1 : Int32)) 86) (some (FP.i2d (rd M (k0 + 1) ((((20 : Int32) + ((2 : Int32) * x1)) + (1 : Int32))).toNatClampNeg)))
set_option maxHeartbeats 4000000 in
set_option maxRecDepth 100000 in
theorem tX7_angleOf (l : Launch) {G : GT} {kd : Nat → Nat × Nat} {ad : Nat → Nat} {k0 : Nat} (hk0 : kModel kd k0) {x1 : Int32} {M : Mem} {vo : UInt64} (hf : mX7_angleOf k0 x1 M = some vo) (n : Nat) : Met l yX7_angleOf (Cond.code yX7_angleOf cX7_angleOf 2 (some .double) :: WA) (rmO 0 0 0) (Pg G kd ad n [.ref (ad k0), .int x1] M) (Qg G kd ad n M (some (.double vo))) 0 0 (AS kd ad n) := by
  refine g_body (own := RX7) (by decide) rfl ?_ (Nat.le_of_ble_eq_true rfl)
  intro p e s m args below meth c C _ H locs ls hI hl
  obtain ⟨hx, hb, hml, hr, hown, hts, hlk, hK, hap, hsx⟩ := id C
  have hl : lv_has ls 2 [(0, .ref (ad k0)), (1, .int x1)] := hl
  unfold mX7_angleOf at hf
  refine lv_aload_n hx hb (dc tbX7_angleOf_k 0 rfl) rfl (lv_at hl 0 rfl) ?_
  refine gg7_0 hx hb hts hown hK hI hk0.1 q_t7_76 (dc tbX7_angleOf_k 1 rfl) ?_
  refine lv_bipush (v := 20) hx hb (dc tbX7_angleOf_k 2 rfl) bp_20 ?_
  refine lv_iconst (v := 2) hx hb (dc tbX7_angleOf_k 3 rfl) ic_2 ?_
  refine lv_iload_n hx hb (dc tbX7_angleOf_k 4 rfl) rfl (lv_at hl 1 rfl) ?_
  refine lv_imul hx hb (dc tbX7_angleOf_k 5 rfl) ?_
  refine lv_iadd hx hb (dc tbX7_angleOf_k 6 rfl) ?_
  refine lv_iconst (v := 1) hx hb (dc tbX7_angleOf_k 7 rfl) ic_1 ?_
  refine lv_iadd hx hb (dc tbX7_angleOf_k 8 rfl) ?_
  obtain ⟨h1, hf⟩ := chk_s hf
  refine g_iald hx hb hK hI hk0.2.1 (okb_in h1) (dc tbX7_angleOf_k 9 rfl) ?_
  refine lv_i2d hx hb (dc tbX7_angleOf_k 10 rfl) ?_
  cases hf
  exact g_dret hx hb hr hlk hI (dc tbX7_angleOf_k 11 rfl)
theorem cv_X7_angleOf : cvF RX7 yX7_angleOf cX7_angleOf 2 (some .double) 1 := ⟨q_t8_115, q_s4_13, q_t1_11, q_t8_116, by decide +kernel⟩
def mX7_springBy_b53 (k0 : Nat) (M : Mem) (ih53 : UInt64 → Int32 → Option UInt64) (x1 : UInt64) (x4 : Int32) : Option UInt64 := cap (mX7_ratioOf k0 x4 M) (fun r13 => ite2 ((Op.cmpValue (FP.dcmp x1 r13) CmpOp.l) ≤ 0) (cap (mX7_angleOf k0 (x4 - (1 : Int32)) M) (fun r17 => cap (mX7_angleOf k0 x4 M) (fun r20 => cap (mX7_angleOf k0 (x4 - (1 : Int32)) M) (fun r23 => chk (n64b (FP.dsub r20 r23)) (cap (mX7_ratioOf k0 (x4 - (1 : Int32)) M) (fun r27 => chk (n64b (FP.dsub x1 r27)) (chk (n64b (FP.dmul (FP.dsub r20 r23) (FP.dsub x1 r27))) (cap (mX7_ratioOf k0 x4 M) (fun r32 => cap (mX7_ratioOf k0 (x4 - (1 : Int32)) M) (fun r35 => chk (n64b (FP.dsub r32 r35)) (chk (n64b (FP.ddiv (FP.dmul (FP.dsub r20 r23) (FP.dsub x1 r27)) (FP.dsub r32 r35))) (chk (n64b (FP.dadd r17 (FP.ddiv (FP.dmul (FP.dsub r20 r23) (FP.dsub x1 r27)) (FP.dsub r32 r35)))) (some (FP.dadd r17 (FP.ddiv (FP.dmul (FP.dsub r20 r23) (FP.dsub x1 r27)) (FP.dsub r32 r35)))))))))))))))) (bnd (x4 + (1 : Int32)) (fun x4_64 => ih53 x1 x4_64)))
set_option maxHeartbeats 4000000 in
set_option maxRecDepth 100000 in
theorem tX7_springBy_b53 {p : Program} {l : Launch} {e : Env} {s : State} {m : MethodId} {args : Array Value} {below : List Frame} {meth : Method} {c : Code} {G : GT} {kd : Nat → Nat × Nat} {ad : Nat → Nat} (C : Cx p s m args meth c cX7_springBy 5 (some .double) RX7 G kd ad) {k0 : Nat} (hk0 : kModel kd k0) {M : Mem} {vo : UInt64} {ih53 : UInt64 → Int32 → Option UInt64} (hih53 : ∀ (x1 : UInt64) (x4 : Int32), ih53 x1 x4 = some vo → At p l e (rmO 1 0 0) s m args below meth c 0 0 (MQ below (Qg G kd ad s.heap.size M (some (.double vo))) args s 0 0 (AS kd ad s.heap.size)) G kd ad 5 53 [(0, .ref (ad k0)), (1, .double x1), (4, .int x4)] [] M) : ∀ (x1 : UInt64) (x4 : Int32), mX7_springBy_b53 k0 M ih53 x1 x4 = some vo → At p l e (rmO 1 0 0) s m args below meth c 0 0 (MQ below (Qg G kd ad s.heap.size M (some (.double vo))) args s 0 0 (AS kd ad s.heap.size)) G kd ad 5 53 [(0, .ref (ad k0)), (1, .double x1), (4, .int x4)] [] M := by
  intro x1 x4 hf H locs ls hI hl
  obtain ⟨hx, hb, hml, hr, hown, hts, hlk, hK, hap, hsx⟩ := id C
  unfold mX7_springBy_b53 at hf
  refine lv_dload_n hx hb (dc tbX7_springBy_0_k 35 rfl) rfl (lv_at hl 1 rfl) ?_
  refine lv_aload_n hx hb (dc tbX7_springBy_0_k 36 rfl) rfl (lv_at hl 0 rfl) ?_
  refine lv_iload hx hb (dc tbX7_springBy_0_k 37 rfl) (lv_at hl 2 rfl) ?_
  obtain ⟨r13, q12, hf⟩ := cap_s hf
  refine g_callVd hx hb hml hown hts hK hap hsx hI (tX7_ratioOf l hk0 q12 H.size) cv_X7_ratioOf q_t8_109 rfl rfl ⟨Nat.le_of_ble_eq_true rfl, Nat.le_of_ble_eq_true rfl⟩ hk0.1 (by simp) rfl rfl rfl hl.1 rfl (Nat.le_of_ble_eq_true rfl) (dc tbX7_springBy_0_k 38 rfl) ⟨Nat.le_of_ble_eq_true rfl, Nat.le_of_ble_eq_true rfl⟩ (fun H locs hI => ?_)
  refine lv_dcmp hx hb (dc tbX7_springBy_0_k 39 rfl) ?_
  refine lv_if_le (tgt := 70) hx hb (dc tbX7_springBy_1_k 0 rfl) rfl (fun c15 => ?_) (fun c15 => ?_)
  · have hf := ite_t c15 hf
    refine lv_aload_n hx hb (dc tbX7_springBy_1_k 3 rfl) rfl (lv_at hl 0 rfl) ?_
    refine lv_iload hx hb (dc tbX7_springBy_1_k 4 rfl) (lv_at hl 2 rfl) ?_
    refine lv_iconst (v := 1) hx hb (dc tbX7_springBy_1_k 5 rfl) ic_1 ?_
    refine lv_isub hx hb (dc tbX7_springBy_1_k 6 rfl) ?_
    obtain ⟨r17, q16, hf⟩ := cap_s hf
    refine g_callVd hx hb hml hown hts hK hap hsx hI (tX7_angleOf l hk0 q16 H.size) cv_X7_angleOf q_t8_113 rfl rfl ⟨Nat.le_of_ble_eq_true rfl, Nat.le_of_ble_eq_true rfl⟩ hk0.1 (by simp) rfl rfl rfl hl.1 rfl (Nat.le_of_ble_eq_true rfl) (dc tbX7_springBy_1_k 7 rfl) ⟨Nat.le_of_ble_eq_true rfl, Nat.le_of_ble_eq_true rfl⟩ (fun H locs hI => ?_)
    refine lv_aload_n hx hb (dc tbX7_springBy_1_k 8 rfl) rfl (lv_at hl 0 rfl) ?_
    refine lv_iload hx hb (dc tbX7_springBy_1_k 9 rfl) (lv_at hl 2 rfl) ?_
    obtain ⟨r20, q19, hf⟩ := cap_s hf
    refine g_callVd hx hb hml hown hts hK hap hsx hI (tX7_angleOf l hk0 q19 H.size) cv_X7_angleOf q_t8_113 rfl rfl ⟨Nat.le_of_ble_eq_true rfl, Nat.le_of_ble_eq_true rfl⟩ hk0.1 (by simp) rfl rfl rfl hl.1 rfl (Nat.le_of_ble_eq_true rfl) (dc tbX7_springBy_1_k 10 rfl) ⟨Nat.le_of_ble_eq_true rfl, Nat.le_of_ble_eq_true rfl⟩ (fun H locs hI => ?_)
    refine lv_aload_n hx hb (dc tbX7_springBy_1_k 11 rfl) rfl (lv_at hl 0 rfl) ?_
    refine lv_iload hx hb (dc tbX7_springBy_1_k 12 rfl) (lv_at hl 2 rfl) ?_
    refine lv_iconst (v := 1) hx hb (dc tbX7_springBy_1_k 13 rfl) ic_1 ?_
    refine lv_isub hx hb (dc tbX7_springBy_1_k 14 rfl) ?_
    obtain ⟨r23, q22, hf⟩ := cap_s hf
    refine g_callVd hx hb hml hown hts hK hap hsx hI (tX7_angleOf l hk0 q22 H.size) cv_X7_angleOf q_t8_113 rfl rfl ⟨Nat.le_of_ble_eq_true rfl, Nat.le_of_ble_eq_true rfl⟩ hk0.1 (by simp) rfl rfl rfl hl.1 rfl (Nat.le_of_ble_eq_true rfl) (dc tbX7_springBy_1_k 15 rfl) ⟨Nat.le_of_ble_eq_true rfl, Nat.le_of_ble_eq_true rfl⟩ (fun H locs hI => ?_)
    obtain ⟨h25, hf⟩ := chk_s hf
    refine lv_dsub hx hb (dc tbX7_springBy_1_k 16 rfl) (n64_b h25) ?_
    refine lv_dload_n hx hb (dc tbX7_springBy_1_k 17 rfl) rfl (lv_at hl 1 rfl) ?_
    refine lv_aload_n hx hb (dc tbX7_springBy_1_k 18 rfl) rfl (lv_at hl 0 rfl) ?_
    refine lv_iload hx hb (dc tbX7_springBy_1_k 19 rfl) (lv_at hl 2 rfl) ?_
    refine lv_iconst (v := 1) hx hb (dc tbX7_springBy_1_k 20 rfl) ic_1 ?_
    refine lv_isub hx hb (dc tbX7_springBy_1_k 21 rfl) ?_
    obtain ⟨r27, q26, hf⟩ := cap_s hf
    refine g_callVd hx hb hml hown hts hK hap hsx hI (tX7_ratioOf l hk0 q26 H.size) cv_X7_ratioOf q_t8_109 rfl rfl ⟨Nat.le_of_ble_eq_true rfl, Nat.le_of_ble_eq_true rfl⟩ hk0.1 (by simp) rfl rfl rfl hl.1 rfl (Nat.le_of_ble_eq_true rfl) (dc tbX7_springBy_1_k 22 rfl) ⟨Nat.le_of_ble_eq_true rfl, Nat.le_of_ble_eq_true rfl⟩ (fun H locs hI => ?_)
    obtain ⟨h29, hf⟩ := chk_s hf
    refine lv_dsub hx hb (dc tbX7_springBy_1_k 23 rfl) (n64_b h29) ?_
    obtain ⟨h30, hf⟩ := chk_s hf
    refine lv_dmul hx hb (dc tbX7_springBy_1_k 24 rfl) (n64_b h30) ?_
    refine lv_aload_n hx hb (dc tbX7_springBy_1_k 25 rfl) rfl (lv_at hl 0 rfl) ?_
    refine lv_iload hx hb (dc tbX7_springBy_1_k 26 rfl) (lv_at hl 2 rfl) ?_
    obtain ⟨r32, q31, hf⟩ := cap_s hf
    refine g_callVd hx hb hml hown hts hK hap hsx hI (tX7_ratioOf l hk0 q31 H.size) cv_X7_ratioOf q_t8_109 rfl rfl ⟨Nat.le_of_ble_eq_true rfl, Nat.le_of_ble_eq_true rfl⟩ hk0.1 (by simp) rfl rfl rfl hl.1 rfl (Nat.le_of_ble_eq_true rfl) (dc tbX7_springBy_1_k 27 rfl) ⟨Nat.le_of_ble_eq_true rfl, Nat.le_of_ble_eq_true rfl⟩ (fun H locs hI => ?_)
    refine lv_aload_n hx hb (dc tbX7_springBy_1_k 28 rfl) rfl (lv_at hl 0 rfl) ?_
    refine lv_iload hx hb (dc tbX7_springBy_1_k 29 rfl) (lv_at hl 2 rfl) ?_
    refine lv_iconst (v := 1) hx hb (dc tbX7_springBy_1_k 30 rfl) ic_1 ?_
    refine lv_isub hx hb (dc tbX7_springBy_1_k 31 rfl) ?_
    obtain ⟨r35, q34, hf⟩ := cap_s hf
    refine g_callVd hx hb hml hown hts hK hap hsx hI (tX7_ratioOf l hk0 q34 H.size) cv_X7_ratioOf q_t8_109 rfl rfl ⟨Nat.le_of_ble_eq_true rfl, Nat.le_of_ble_eq_true rfl⟩ hk0.1 (by simp) rfl rfl rfl hl.1 rfl (Nat.le_of_ble_eq_true rfl) (dc tbX7_springBy_1_k 32 rfl) ⟨Nat.le_of_ble_eq_true rfl, Nat.le_of_ble_eq_true rfl⟩ (fun H locs hI => ?_)
    obtain ⟨h37, hf⟩ := chk_s hf
    refine lv_dsub hx hb (dc tbX7_springBy_1_k 33 rfl) (n64_b h37) ?_
    obtain ⟨h38, hf⟩ := chk_s hf
    refine lv_ddiv hx hb (dc tbX7_springBy_1_k 34 rfl) (n64_b h38) ?_
    obtain ⟨h39, hf⟩ := chk_s hf
    refine lv_dadd hx hb (dc tbX7_springBy_1_k 35 rfl) (n64_b h39) ?_
    cases hf
    exact g_dret hx hb hr hlk hI (dc tbX7_springBy_1_k 36 rfl)
  · have hf := ite_f c15 hf
    obtain ⟨x4_64, e40, hf⟩ := bnd_s hf
    refine lv_iinc (v := x4_64) (lv' := [(4, .int x4_64), (0, .ref (ad k0)), (1, .double x1)]) hx hb (dc tbX7_springBy_1_k 1 rfl) hl (k := 2) rfl (ii_e e40 ic_1) (by decide) rfl (fun ls hl => ?_)
    refine lv_goto (tgt := 53) hx hb (dc tbX7_springBy_1_k 2 rfl) rfl ?_
    exact hih53 x1 x4_64 hf _ _ _ hI (lv_sub hl [1, 2, 0] rfl)
def mX7_springBy_l53 (k0 : Nat) (M : Mem) : Nat → UInt64 → Int32 → Option UInt64
  | 0 => fun _ _ => none
  | n + 1 => mX7_springBy_b53 k0 M (mX7_springBy_l53 k0 M n)
theorem tX7_springBy_l53 {p : Program} {l : Launch} {e : Env} {s : State} {m : MethodId} {args : Array Value} {below : List Frame} {meth : Method} {c : Code} {G : GT} {kd : Nat → Nat × Nat} {ad : Nat → Nat} (C : Cx p s m args meth c cX7_springBy 5 (some .double) RX7 G kd ad) {k0 : Nat} (hk0 : kModel kd k0) {M : Mem} {vo : UInt64}   : ∀ (fuel : Nat) (x1 : UInt64) (x4 : Int32), mX7_springBy_l53 k0 M fuel x1 x4 = some vo → At p l e (rmO 1 0 0) s m args below meth c 0 0 (MQ below (Qg G kd ad s.heap.size M (some (.double vo))) args s 0 0 (AS kd ad s.heap.size)) G kd ad 5 53 [(0, .ref (ad k0)), (1, .double x1), (4, .int x4)] [] M := by
  intro fuel
  induction fuel with
  | zero => intro x1 x4 hf; cases hf
  | succ n IH => exact tX7_springBy_b53 C hk0 IH
def mX7_springBy (k0 : Nat) (x1 : UInt64) (M : Mem) : Option UInt64 := chk (okb (19 : Int32) 86) (bnd ((rd M (k0 + 1) ((19 : Int32)).toNatClampNeg)) (fun x3_7 => ite2 (x3_7 = 0) (some FP.dconst0) (cap (mX7_ratioOf k0 (0 : Int32) M) (fun r5 => ite2 (0 < (Op.cmpValue (FP.dcmp x1 r5) CmpOp.g)) (cap (mX7_ratioOf k0 (x3_7 - (1 : Int32)) M) (fun r9 => ite2 ((Op.cmpValue (FP.dcmp x1 r9) CmpOp.l) < 0) (mX7_springBy_l53 k0 M 5000 x1 (1 : Int32)) (cap (mX7_angleOf k0 (x3_7 - (1 : Int32)) M) (fun r42 => some r42)))) (cap (mX7_angleOf k0 (0 : Int32) M) (fun r45 => some r45))))))
set_option maxHeartbeats 4000000 in
set_option maxRecDepth 100000 in
theorem tX7_springBy (l : Launch) {G : GT} {kd : Nat → Nat × Nat} {ad : Nat → Nat} {k0 : Nat} (hk0 : kModel kd k0) {x1 : UInt64} {M : Mem} {vo : UInt64} (hf : mX7_springBy k0 x1 M = some vo) (n : Nat) : Met l yX7_springBy (Cond.code yX7_springBy cX7_springBy 5 (some .double) :: WA) (rmO 1 0 0) (Pg G kd ad n [.ref (ad k0), .double x1] M) (Qg G kd ad n M (some (.double vo))) 0 0 (AS kd ad n) := by
  refine g_body (own := RX7) (by decide) rfl ?_ (Nat.le_of_ble_eq_true rfl)
  intro p e s m args below meth c C _ H locs ls hI hl
  obtain ⟨hx, hb, hml, hr, hown, hts, hlk, hK, hap, hsx⟩ := id C
  have hl : lv_has ls 5 [(0, .ref (ad k0)), (1, .double x1)] := hl
  unfold mX7_springBy at hf
  refine lv_aload_n hx hb (dc tbX7_springBy_0_k 0 rfl) rfl (lv_at hl 0 rfl) ?_
  refine gg7_0 hx hb hts hown hK hI hk0.1 q_t7_76 (dc tbX7_springBy_0_k 1 rfl) ?_
  refine lv_bipush (v := 19) hx hb (dc tbX7_springBy_0_k 2 rfl) bp_19 ?_
  obtain ⟨h1, hf⟩ := chk_s hf
  refine g_iald hx hb hK hI hk0.2.1 (okb_in h1) (dc tbX7_springBy_0_k 3 rfl) ?_
  obtain ⟨x3_7, e2, hf⟩ := bnd_s hf
  refine lv_ei e2 ?_
  refine lv_istore_n (lv' := [(3, .int x3_7), (0, .ref (ad k0)), (1, .double x1)]) hx hb (dc tbX7_springBy_0_k 4 rfl) rfl hl (by decide) rfl (fun ls hl => ?_)
  refine lv_iload_n hx hb (dc tbX7_springBy_0_k 5 rfl) rfl (lv_at hl 0 rfl) ?_
  refine lv_if_ne (tgt := 14) hx hb (dc tbX7_springBy_0_k 6 rfl) rfl (fun c3 => ?_) (fun c3 => ?_)
  · have hf := ite_f c3 hf
    refine lv_dload_n hx hb (dc tbX7_springBy_0_k 9 rfl) rfl (lv_at hl 2 rfl) ?_
    refine lv_aload_n hx hb (dc tbX7_springBy_0_k 10 rfl) rfl (lv_at hl 1 rfl) ?_
    refine lv_iconst (v := 0) hx hb (dc tbX7_springBy_0_k 11 rfl) ic_0 ?_
    obtain ⟨r5, q4, hf⟩ := cap_s hf
    refine g_callVd hx hb hml hown hts hK hap hsx hI (tX7_ratioOf l hk0 q4 H.size) cv_X7_ratioOf q_t8_109 rfl rfl ⟨Nat.le_of_ble_eq_true rfl, Nat.le_of_ble_eq_true rfl⟩ hk0.1 (by simp) rfl rfl rfl hl.1 rfl (Nat.le_of_ble_eq_true rfl) (dc tbX7_springBy_0_k 12 rfl) ⟨Nat.le_of_ble_eq_true rfl, Nat.le_of_ble_eq_true rfl⟩ (fun H locs hI => ?_)
    refine lv_dcmp hx hb (dc tbX7_springBy_0_k 13 rfl) ?_
    refine lv_if_gt (tgt := 30) hx hb (dc tbX7_springBy_0_k 14 rfl) rfl (fun c7 => ?_) (fun c7 => ?_)
    · have hf := ite_t c7 hf
      refine lv_dload_n hx hb (dc tbX7_springBy_0_k 19 rfl) rfl (lv_at hl 2 rfl) ?_
      refine lv_aload_n hx hb (dc tbX7_springBy_0_k 20 rfl) rfl (lv_at hl 1 rfl) ?_
      refine lv_iload_n hx hb (dc tbX7_springBy_0_k 21 rfl) rfl (lv_at hl 0 rfl) ?_
      refine lv_iconst (v := 1) hx hb (dc tbX7_springBy_0_k 22 rfl) ic_1 ?_
      refine lv_isub hx hb (dc tbX7_springBy_0_k 23 rfl) ?_
      obtain ⟨r9, q8, hf⟩ := cap_s hf
      refine g_callVd hx hb hml hown hts hK hap hsx hI (tX7_ratioOf l hk0 q8 H.size) cv_X7_ratioOf q_t8_109 rfl rfl ⟨Nat.le_of_ble_eq_true rfl, Nat.le_of_ble_eq_true rfl⟩ hk0.1 (by simp) rfl rfl rfl hl.1 rfl (Nat.le_of_ble_eq_true rfl) (dc tbX7_springBy_0_k 24 rfl) ⟨Nat.le_of_ble_eq_true rfl, Nat.le_of_ble_eq_true rfl⟩ (fun H locs hI => ?_)
      refine lv_dcmp hx hb (dc tbX7_springBy_0_k 25 rfl) ?_
      refine lv_if_lt (tgt := 50) hx hb (dc tbX7_springBy_0_k 26 rfl) rfl (fun c11 => ?_) (fun c11 => ?_)
      · have hf := ite_t c11 hf
        refine lv_iconst (v := 1) hx hb (dc tbX7_springBy_0_k 33 rfl) ic_1 ?_
        refine lv_istore (lv' := [(4, .int (1 : Int32)), (3, .int x3_7), (0, .ref (ad k0)), (1, .double x1)]) hx hb (dc tbX7_springBy_0_k 34 rfl) hl (by decide) rfl (fun ls hl => ?_)
        exact tX7_springBy_l53 C hk0 5000 x1 (1 : Int32) hf _ _ _ hI (lv_sub hl [2, 3, 0] rfl)
      · have hf := ite_f c11 hf
        refine lv_aload_n hx hb (dc tbX7_springBy_0_k 27 rfl) rfl (lv_at hl 1 rfl) ?_
        refine lv_iload_n hx hb (dc tbX7_springBy_0_k 28 rfl) rfl (lv_at hl 0 rfl) ?_
        refine lv_iconst (v := 1) hx hb (dc tbX7_springBy_0_k 29 rfl) ic_1 ?_
        refine lv_isub hx hb (dc tbX7_springBy_0_k 30 rfl) ?_
        obtain ⟨r42, q41, hf⟩ := cap_s hf
        refine g_callVd hx hb hml hown hts hK hap hsx hI (tX7_angleOf l hk0 q41 H.size) cv_X7_angleOf q_t8_113 rfl rfl ⟨Nat.le_of_ble_eq_true rfl, Nat.le_of_ble_eq_true rfl⟩ hk0.1 (by simp) rfl rfl rfl hl.1 rfl (Nat.le_of_ble_eq_true rfl) (dc tbX7_springBy_0_k 31 rfl) ⟨Nat.le_of_ble_eq_true rfl, Nat.le_of_ble_eq_true rfl⟩ (fun H locs hI => ?_)
        cases hf
        exact g_dret hx hb hr hlk hI (dc tbX7_springBy_0_k 32 rfl)
    · have hf := ite_f c7 hf
      refine lv_aload_n hx hb (dc tbX7_springBy_0_k 15 rfl) rfl (lv_at hl 1 rfl) ?_
      refine lv_iconst (v := 0) hx hb (dc tbX7_springBy_0_k 16 rfl) ic_0 ?_
      obtain ⟨r45, q44, hf⟩ := cap_s hf
      refine g_callVd hx hb hml hown hts hK hap hsx hI (tX7_angleOf l hk0 q44 H.size) cv_X7_angleOf q_t8_113 rfl rfl ⟨Nat.le_of_ble_eq_true rfl, Nat.le_of_ble_eq_true rfl⟩ hk0.1 (by simp) rfl rfl rfl hl.1 rfl (Nat.le_of_ble_eq_true rfl) (dc tbX7_springBy_0_k 17 rfl) ⟨Nat.le_of_ble_eq_true rfl, Nat.le_of_ble_eq_true rfl⟩ (fun H locs hI => ?_)
      cases hf
      exact g_dret hx hb hr hlk hI (dc tbX7_springBy_0_k 18 rfl)
  · have hf := ite_t c3 hf
    refine lv_dconst0 hx hb (dc tbX7_springBy_0_k 7 rfl) ?_
    cases hf
    exact g_dret hx hb hr hlk hI (dc tbX7_springBy_0_k 8 rfl)
theorem cv_X7_springBy : cvF RX7 yX7_springBy cX7_springBy 5 (some .double) 1 := ⟨q_t8_107, q_s4_11, q_t1_11, q_t8_108, by decide +kernel⟩
def mX7_springBack (k0 : Nat) (M : Mem) : Option (Mem × UInt64) := bnd (wr M k0 5 (0 : Int32)) (fun M1 => cap (mX7_ratioNow k0 M1) (fun r4 => cap (mX7_springBy k0 r4 M1) (fun r7 => some (M1, r7))))
set_option maxHeartbeats 4000000 in
set_option maxRecDepth 100000 in
theorem tX7_springBack (l : Launch) {G : GT} {kd : Nat → Nat × Nat} {ad : Nat → Nat} {k0 : Nat} (hk0 : kModel kd k0) {M : Mem} {MO : Mem} {vo : UInt64} (hf : mX7_springBack k0 M = some (MO, vo)) (n : Nat) : Met l yX7_springBack (Cond.code yX7_springBack cX7_springBack 1 (some .double) :: WA) (rmO 2 0 0) (Pg G kd ad n [.ref (ad k0)] M) (Qg G kd ad n MO (some (.double vo))) 0 0 (AS kd ad n) := by
  refine g_body (own := RX7) (by decide) rfl ?_ (Nat.le_of_ble_eq_true rfl)
  intro p e s m args below meth c C _ H locs ls hI hl
  obtain ⟨hx, hb, hml, hr, hown, hts, hlk, hK, hap, hsx⟩ := id C
  have hl : lv_has ls 1 [(0, .ref (ad k0))] := hl
  unfold mX7_springBack at hf
  refine lv_aload_n hx hb (dc tbX7_springBack_k 0 rfl) rfl (lv_at hl 0 rfl) ?_
  refine lv_iconst (v := 0) hx hb (dc tbX7_springBack_k 1 rfl) ic_0 ?_
  obtain ⟨M1, e2, hf⟩ := bnd_s hf
  refine gp7_5 hx hb hts hown hK hap hI hk0.1 q_t7_81 (dc tbX7_springBack_k 2 rfl) e2 (fun H locs hI => ?_)
  refine lv_aload_n hx hb (dc tbX7_springBack_k 3 rfl) rfl (lv_at hl 0 rfl) ?_
  refine lv_aload_n hx hb (dc tbX7_springBack_k 4 rfl) rfl (lv_at hl 0 rfl) ?_
  obtain ⟨r4, q3, hf⟩ := cap_s hf
  refine g_callVd hx hb hml hown hts hK hap hsx hI (tX7_ratioNow l hk0 q3 H.size) cv_X7_ratioNow q_t8_96 rfl rfl ⟨Nat.le_of_ble_eq_true rfl, Nat.le_of_ble_eq_true rfl⟩ hk0.1 (by simp) rfl rfl rfl hl.1 rfl (Nat.le_of_ble_eq_true rfl) (dc tbX7_springBack_k 5 rfl) ⟨Nat.le_of_ble_eq_true rfl, Nat.le_of_ble_eq_true rfl⟩ (fun H locs hI => ?_)
  obtain ⟨r7, q6, hf⟩ := cap_s hf
  refine g_callVd hx hb hml hown hts hK hap hsx hI (tX7_springBy l hk0 q6 H.size) cv_X7_springBy q_t8_105 rfl rfl ⟨Nat.le_of_ble_eq_true rfl, Nat.le_of_ble_eq_true rfl⟩ hk0.1 (by simp) rfl rfl rfl hl.1 rfl (Nat.le_of_ble_eq_true rfl) (dc tbX7_springBack_k 6 rfl) ⟨Nat.le_of_ble_eq_true rfl, Nat.le_of_ble_eq_true rfl⟩ (fun H locs hI => ?_)
  cases hf
  exact g_dret hx hb hr hlk hI (dc tbX7_springBack_k 7 rfl)
theorem cv_X7_springBack : cvF RX7 yX7_springBack cX7_springBack 1 (some .double) 0 := ⟨q_t8_102, q_t8_103, q_t1_11, q_t8_104, by decide +kernel⟩
def mX7_springBackFor_b20 (k0 : Nat) (x1 : UInt64) (y1 : Int32) (M : Mem) : Option (Mem × UInt64) := cal (mX7_good k0 y1 M) (fun M4 r3 => ite2 (r3 = 0) (some (M4, FP.dconst0)) (cap (mX7_springBy k0 x1 M4) (fun r7 => some (M4, r7))))
set_option maxHeartbeats 4000000 in
set_option maxRecDepth 100000 in
theorem tX7_springBackFor_b20 {p : Program} {l : Launch} {e : Env} {s : State} {m : MethodId} {args : Array Value} {below : List Frame} {meth : Method} {c : Code} {G : GT} {kd : Nat → Nat × Nat} {ad : Nat → Nat} (C : Cx p s m args meth c cX7_springBackFor 3 (some .double) RX7 G kd ad) {k0 : Nat} (hk0 : kModel kd k0) {MO : Mem} {vo : UInt64}   : ∀ (x1 : UInt64) (y1 : Int32) (M : Mem), mX7_springBackFor_b20 k0 x1 y1 M = some (MO, vo) → At p l e (rmO 2 0 0) s m args below meth c 0 0 (MQ below (Qg G kd ad s.heap.size MO (some (.double vo))) args s 0 0 (AS kd ad s.heap.size)) G kd ad 3 20 [(0, .ref (ad k0)), (1, .double x1)] [.int y1, .ref (ad k0)] M := by
  intro x1 y1 M hf H locs ls hI hl
  obtain ⟨hx, hb, hml, hr, hown, hts, hlk, hK, hap, hsx⟩ := id C
  unfold mX7_springBackFor_b20 at hf
  obtain ⟨M4, r3, q2, hf⟩ := cal_s hf
  refine g_callVi hx hb hml hown hts hK hap hsx hI (tX7_good l hk0 q2 H.size) cv_X7_good q_t8_56 rfl rfl ⟨Nat.le_of_ble_eq_true rfl, Nat.le_of_ble_eq_true rfl⟩ hk0.1 (by simp) rfl rfl rfl hl.1 rfl (Nat.le_of_ble_eq_true rfl) (dc tbX7_springBackFor_k 12 rfl) ⟨Nat.le_of_ble_eq_true rfl, Nat.le_of_ble_eq_true rfl⟩ (fun H locs hI => ?_)
  refine lv_if_eq (tgt := 34) hx hb (dc tbX7_springBackFor_k 13 rfl) rfl (fun c5 => ?_) (fun c5 => ?_)
  · have hf := ite_t c5 hf
    refine lv_dconst0 hx hb (dc tbX7_springBackFor_k 18 rfl) ?_
    cases hf
    exact g_dret hx hb hr hlk hI (dc tbX7_springBackFor_k 19 rfl)
  · have hf := ite_f c5 hf
    refine lv_aload_n hx hb (dc tbX7_springBackFor_k 14 rfl) rfl (lv_at hl 0 rfl) ?_
    refine lv_dload_n hx hb (dc tbX7_springBackFor_k 15 rfl) rfl (lv_at hl 1 rfl) ?_
    obtain ⟨r7, q6, hf⟩ := cap_s hf
    refine g_callVd hx hb hml hown hts hK hap hsx hI (tX7_springBy l hk0 q6 H.size) cv_X7_springBy q_t8_105 rfl rfl ⟨Nat.le_of_ble_eq_true rfl, Nat.le_of_ble_eq_true rfl⟩ hk0.1 (by simp) rfl rfl rfl hl.1 rfl (Nat.le_of_ble_eq_true rfl) (dc tbX7_springBackFor_k 16 rfl) ⟨Nat.le_of_ble_eq_true rfl, Nat.le_of_ble_eq_true rfl⟩ (fun H locs hI => ?_)
    refine lv_goto (tgt := 35) hx hb (dc tbX7_springBackFor_k 17 rfl) rfl ?_
    cases hf
    exact g_dret hx hb hr hlk hI (dc tbX7_springBackFor_k 19 rfl)
def mX7_springBackFor_b19 (k0 : Nat) (x1 : UInt64) (M : Mem) : Option (Mem × UInt64) := mX7_springBackFor_b20 k0 x1 (0 : Int32) M
set_option maxHeartbeats 4000000 in
set_option maxRecDepth 100000 in
theorem tX7_springBackFor_b19 {p : Program} {l : Launch} {e : Env} {s : State} {m : MethodId} {args : Array Value} {below : List Frame} {meth : Method} {c : Code} {G : GT} {kd : Nat → Nat × Nat} {ad : Nat → Nat} (C : Cx p s m args meth c cX7_springBackFor 3 (some .double) RX7 G kd ad) {k0 : Nat} (hk0 : kModel kd k0) {MO : Mem} {vo : UInt64}   : ∀ (x1 : UInt64) (M : Mem), mX7_springBackFor_b19 k0 x1 M = some (MO, vo) → At p l e (rmO 2 0 0) s m args below meth c 0 0 (MQ below (Qg G kd ad s.heap.size MO (some (.double vo))) args s 0 0 (AS kd ad s.heap.size)) G kd ad 3 19 [(0, .ref (ad k0)), (1, .double x1)] [.ref (ad k0)] M := by
  intro x1 M hf H locs ls hI hl
  obtain ⟨hx, hb, hml, hr, hown, hts, hlk, hK, hap, hsx⟩ := id C
  unfold mX7_springBackFor_b19 at hf
  refine lv_iconst (v := 0) hx hb (dc tbX7_springBackFor_k 11 rfl) ic_0 ?_
  exact tX7_springBackFor_b20 C hk0 x1 (0 : Int32) M hf _ _ _ hI (lv_sub hl [0, 1] rfl)
def mX7_springBackFor (k0 : Nat) (x1 : UInt64) (M : Mem) : Option (Mem × UInt64) := ite2 ((Op.cmpValue (FP.dcmp x1 FP.dconst0) CmpOp.l) < 0) (mX7_springBackFor_b19 k0 x1 M) (ite2 (0 < (Op.cmpValue (FP.dcmp x1 (4666722622711529472 : UInt64)) CmpOp.g)) (mX7_springBackFor_b19 k0 x1 M) (mX7_springBackFor_b20 k0 x1 (1 : Int32) M))
set_option maxHeartbeats 4000000 in
set_option maxRecDepth 100000 in
theorem tX7_springBackFor (l : Launch) {G : GT} {kd : Nat → Nat × Nat} {ad : Nat → Nat} {k0 : Nat} (hk0 : kModel kd k0) {x1 : UInt64} {M : Mem} {MO : Mem} {vo : UInt64} (hf : mX7_springBackFor k0 x1 M = some (MO, vo)) (n : Nat) : Met l yX7_springBackFor (Cond.code yX7_springBackFor cX7_springBackFor 3 (some .double) :: WA) (rmO 2 0 0) (Pg G kd ad n [.ref (ad k0), .double x1] M) (Qg G kd ad n MO (some (.double vo))) 0 0 (AS kd ad n) := by
  refine g_body (own := RX7) (by decide) rfl ?_ (Nat.le_of_ble_eq_true rfl)
  intro p e s m args below meth c C _ H locs ls hI hl
  obtain ⟨hx, hb, hml, hr, hown, hts, hlk, hK, hap, hsx⟩ := id C
  have hl : lv_has ls 3 [(0, .ref (ad k0)), (1, .double x1)] := hl
  unfold mX7_springBackFor at hf
  refine lv_aload_n hx hb (dc tbX7_springBackFor_k 0 rfl) rfl (lv_at hl 0 rfl) ?_
  refine lv_dload_n hx hb (dc tbX7_springBackFor_k 1 rfl) rfl (lv_at hl 1 rfl) ?_
  refine lv_dconst0 hx hb (dc tbX7_springBackFor_k 2 rfl) ?_
  refine lv_dcmp hx hb (dc tbX7_springBackFor_k 3 rfl) ?_
  refine lv_if_lt (tgt := 19) hx hb (dc tbX7_springBackFor_k 4 rfl) rfl (fun c1 => ?_) (fun c1 => ?_)
  · have hf := ite_t c1 hf
    exact tX7_springBackFor_b19 C hk0 x1 M hf _ _ _ hI (lv_sub hl [0, 1] rfl)
  · have hf := ite_f c1 hf
    refine lv_dload_n hx hb (dc tbX7_springBackFor_k 5 rfl) rfl (lv_at hl 1 rfl) ?_
    refine lv_ldc2d hx hb hown (hts _ q_t8_121) (dc tbX7_springBackFor_k 6 rfl) ?_
    refine lv_dcmp hx hb (dc tbX7_springBackFor_k 7 rfl) ?_
    refine lv_if_gt (tgt := 19) hx hb (dc tbX7_springBackFor_k 8 rfl) rfl (fun c9 => ?_) (fun c9 => ?_)
    · have hf := ite_t c9 hf
      exact tX7_springBackFor_b19 C hk0 x1 M hf _ _ _ hI (lv_sub hl [0, 1] rfl)
    · have hf := ite_f c9 hf
      refine lv_iconst (v := 1) hx hb (dc tbX7_springBackFor_k 9 rfl) ic_1 ?_
      refine lv_goto (tgt := 20) hx hb (dc tbX7_springBackFor_k 10 rfl) rfl ?_
      exact tX7_springBackFor_b20 C hk0 x1 (1 : Int32) M hf _ _ _ hI (lv_sub hl [0, 1] rfl)
theorem cv_X7_springBackFor : cvF RX7 yX7_springBackFor cX7_springBackFor 3 (some .double) 1 := ⟨q_t8_118, q_t8_119, q_t1_11, q_t8_120, by decide +kernel⟩
def mX7_swingAngle (k0 : Nat) (M : Mem) : Option (Mem × Int32) := bnd (wr M k0 5 (0 : Int32)) (fun M1 => cap (mX7_ratioNow k0 M1) (fun r4 => cap (mX7_springBy k0 r4 M1) (fun r7 => chk (n64b (FP.dadd (4651127699538968576 : UInt64) r7)) (some (M1, (FP.d2i (FP.dadd (4651127699538968576 : UInt64) r7)))))))
set_option maxHeartbeats 4000000 in
set_option maxRecDepth 100000 in
theorem tX7_swingAngle (l : Launch) {G : GT} {kd : Nat → Nat × Nat} {ad : Nat → Nat} {k0 : Nat} (hk0 : kModel kd k0) {M : Mem} {MO : Mem} {vo : Int32} (hf : mX7_swingAngle k0 M = some (MO, vo)) (n : Nat) : Met l yX7_swingAngle (Cond.code yX7_swingAngle cX7_swingAngle 1 (some .int) :: WA) (rmO 2 0 0) (Pg G kd ad n [.ref (ad k0)] M) (Qg G kd ad n MO (some (.int vo))) 0 0 (AS kd ad n) := by
  refine g_body (own := RX7) (by decide) rfl ?_ (Nat.le_of_ble_eq_true rfl)
  intro p e s m args below meth c C _ H locs ls hI hl
  obtain ⟨hx, hb, hml, hr, hown, hts, hlk, hK, hap, hsx⟩ := id C
  have hl : lv_has ls 1 [(0, .ref (ad k0))] := hl
  unfold mX7_swingAngle at hf
  refine lv_aload_n hx hb (dc tbX7_swingAngle_k 0 rfl) rfl (lv_at hl 0 rfl) ?_
  refine lv_iconst (v := 0) hx hb (dc tbX7_swingAngle_k 1 rfl) ic_0 ?_
  obtain ⟨M1, e2, hf⟩ := bnd_s hf
  refine gp7_5 hx hb hts hown hK hap hI hk0.1 q_t7_81 (dc tbX7_swingAngle_k 2 rfl) e2 (fun H locs hI => ?_)
  refine lv_ldc2d hx hb hown (hts _ q_t8_126) (dc tbX7_swingAngle_k 3 rfl) ?_
  refine lv_aload_n hx hb (dc tbX7_swingAngle_k 4 rfl) rfl (lv_at hl 0 rfl) ?_
  refine lv_aload_n hx hb (dc tbX7_swingAngle_k 5 rfl) rfl (lv_at hl 0 rfl) ?_
  obtain ⟨r4, q3, hf⟩ := cap_s hf
  refine g_callVd hx hb hml hown hts hK hap hsx hI (tX7_ratioNow l hk0 q3 H.size) cv_X7_ratioNow q_t8_96 rfl rfl ⟨Nat.le_of_ble_eq_true rfl, Nat.le_of_ble_eq_true rfl⟩ hk0.1 (by simp) rfl rfl rfl hl.1 rfl (Nat.le_of_ble_eq_true rfl) (dc tbX7_swingAngle_k 6 rfl) ⟨Nat.le_of_ble_eq_true rfl, Nat.le_of_ble_eq_true rfl⟩ (fun H locs hI => ?_)
  obtain ⟨r7, q6, hf⟩ := cap_s hf
  refine g_callVd hx hb hml hown hts hK hap hsx hI (tX7_springBy l hk0 q6 H.size) cv_X7_springBy q_t8_105 rfl rfl ⟨Nat.le_of_ble_eq_true rfl, Nat.le_of_ble_eq_true rfl⟩ hk0.1 (by simp) rfl rfl rfl hl.1 rfl (Nat.le_of_ble_eq_true rfl) (dc tbX7_swingAngle_k 7 rfl) ⟨Nat.le_of_ble_eq_true rfl, Nat.le_of_ble_eq_true rfl⟩ (fun H locs hI => ?_)
  obtain ⟨h9, hf⟩ := chk_s hf
  refine lv_dadd hx hb (dc tbX7_swingAngle_k 8 rfl) (n64_b h9) ?_
  refine lv_d2i hx hb (dc tbX7_swingAngle_k 9 rfl) ?_
  cases hf
  exact g_iret hx hb hr hlk hI (dc tbX7_swingAngle_k 10 rfl)
theorem cv_X7_swingAngle : cvF RX7 yX7_swingAngle cX7_swingAngle 1 (some .int) 0 := ⟨q_t8_123, q_t8_124, q_t1_11, q_t8_125, by decide +kernel⟩
def mX7_isTool_b25 (M : Mem) (y0 : Int64) (y1 : Int64) (y2 : Int64) : Option Int32 := cap (mX7_between y0 y1 y2 M) (fun r7 => ite2 (r7 = 0) (some (0 : Int32)) (some (1 : Int32)))
set_option maxHeartbeats 4000000 in
set_option maxRecDepth 100000 in
theorem tX7_isTool_b25 {p : Program} {l : Launch} {e : Env} {s : State} {m : MethodId} {args : Array Value} {below : List Frame} {meth : Method} {c : Code} {G : GT} {kd : Nat → Nat × Nat} {ad : Nat → Nat} (C : Cx p s m args meth c cX7_isTool 2 (some .boolean) RX7 G kd ad)  {M : Mem} {vo : Int32}   : ∀ (y0 : Int64) (y1 : Int64) (y2 : Int64), mX7_isTool_b25  M y0 y1 y2 = some vo → At p l e (rmO 1 0 0) s m args below meth c 0 0 (MQ below (Qg G kd ad s.heap.size M (some (.int vo))) args s 0 0 (AS kd ad s.heap.size)) G kd ad 2 25 [] [.long y2, .long y1, .long y0] M := by
  intro y0 y1 y2 hf H locs ls hI hl
  obtain ⟨hx, hb, hml, hr, hown, hts, hlk, hK, hap, hsx⟩ := id C
  unfold mX7_isTool_b25 at hf
  obtain ⟨r7, q6, hf⟩ := cap_s hf
  refine g_callSi hx hb hml hown hts hK hap hsx hI (tX7_between l  q6 H.size) cs_X7_between q_t7_190 rfl rfl ⟨Nat.le_of_ble_eq_true rfl, Nat.le_of_ble_eq_true rfl⟩ rfl hl.1 rfl (Nat.le_of_ble_eq_true rfl) (dc tbX7_isTool_k 15 rfl) ⟨Nat.le_of_ble_eq_true rfl, Nat.le_of_ble_eq_true rfl⟩ (fun H locs hI => ?_)
  refine lv_if_eq (tgt := 35) hx hb (dc tbX7_isTool_k 16 rfl) rfl (fun c9 => ?_) (fun c9 => ?_)
  · have hf := ite_t c9 hf
    refine lv_iconst (v := 0) hx hb (dc tbX7_isTool_k 19 rfl) ic_0 ?_
    cases hf
    exact g_zret hx hb hr hlk hI rfl (dc tbX7_isTool_k 20 rfl)
  · have hf := ite_f c9 hf
    refine lv_iconst (v := 1) hx hb (dc tbX7_isTool_k 17 rfl) ic_1 ?_
    refine lv_goto (tgt := 36) hx hb (dc tbX7_isTool_k 18 rfl) rfl ?_
    cases hf
    exact g_zret hx hb hr hlk hI rfl (dc tbX7_isTool_k 20 rfl)
def mX7_isTool (x0 : Int32) (x1 : Int32) (M : Mem) : Option Int32 := cap (mX7_between (x0).toInt64 (0 : Int64) (4 : Int64) M) (fun r2 => ite2 (r2 = 0) (some (0 : Int32)) (ite2 (x0 = (4 : Int32)) (mX7_isTool_b25  M ((x1).toInt64) (0 : Int64) (0 : Int64)) (mX7_isTool_b25  M ((x1).toInt64) (0 : Int64) (1 : Int64))))
set_option maxHeartbeats 4000000 in
set_option maxRecDepth 100000 in
theorem tX7_isTool (l : Launch) {G : GT} {kd : Nat → Nat × Nat} {ad : Nat → Nat}  {x0 : Int32} {x1 : Int32} {M : Mem} {vo : Int32} (hf : mX7_isTool  x0 x1 M = some vo) (n : Nat) : Met l yX7_isTool (Cond.code yX7_isTool cX7_isTool 2 (some .boolean) :: WA) (rmO 1 0 0) (Pg G kd ad n [.int x0, .int x1] M) (Qg G kd ad n M (some (.int vo))) 0 0 (AS kd ad n) := by
  refine g_body (own := RX7) (by decide) rfl ?_ (Nat.le_of_ble_eq_true rfl)
  intro p e s m args below meth c C _ H locs ls hI hl
  obtain ⟨hx, hb, hml, hr, hown, hts, hlk, hK, hap, hsx⟩ := id C
  have hl : lv_has ls 2 [(0, .int x0), (1, .int x1)] := hl
  unfold mX7_isTool at hf
  refine lv_iload_n hx hb (dc tbX7_isTool_k 0 rfl) rfl (lv_at hl 0 rfl) ?_
  refine lv_i2l hx hb (dc tbX7_isTool_k 1 rfl) rfl ?_
  refine lv_lconst (v := 0) hx hb (dc tbX7_isTool_k 2 rfl) (by decide) ?_
  refine lv_ldc2 hx hb hown (hts _ q_t8_134) (dc tbX7_isTool_k 3 rfl) ?_
  obtain ⟨r2, q1, hf⟩ := cap_s hf
  refine g_callSi hx hb hml hown hts hK hap hsx hI (tX7_between l  q1 H.size) cs_X7_between q_t7_190 rfl rfl ⟨Nat.le_of_ble_eq_true rfl, Nat.le_of_ble_eq_true rfl⟩ rfl hl.1 rfl (Nat.le_of_ble_eq_true rfl) (dc tbX7_isTool_k 4 rfl) ⟨Nat.le_of_ble_eq_true rfl, Nat.le_of_ble_eq_true rfl⟩ (fun H locs hI => ?_)
  refine lv_if_eq (tgt := 35) hx hb (dc tbX7_isTool_k 5 rfl) rfl (fun c4 => ?_) (fun c4 => ?_)
  · have hf := ite_t c4 hf
    refine lv_iconst (v := 0) hx hb (dc tbX7_isTool_k 19 rfl) ic_0 ?_
    cases hf
    exact g_zret hx hb hr hlk hI rfl (dc tbX7_isTool_k 20 rfl)
  · have hf := ite_f c4 hf
    refine lv_iload_n hx hb (dc tbX7_isTool_k 6 rfl) rfl (lv_at hl 1 rfl) ?_
    refine lv_i2l hx hb (dc tbX7_isTool_k 7 rfl) rfl ?_
    refine lv_lconst (v := 0) hx hb (dc tbX7_isTool_k 8 rfl) (by decide) ?_
    refine lv_iload_n hx hb (dc tbX7_isTool_k 9 rfl) rfl (lv_at hl 0 rfl) ?_
    refine lv_iconst (v := 4) hx hb (dc tbX7_isTool_k 10 rfl) ic_4 ?_
    refine lv_icmp_ne (tgt := 24) hx hb (dc tbX7_isTool_k 11 rfl) rfl (fun c5 => ?_) (fun c5 => ?_)
    · have hf := ite_f c5 hf
      refine lv_lconst (v := 1) hx hb (dc tbX7_isTool_k 14 rfl) (by decide) ?_
      exact tX7_isTool_b25 C  ((x1).toInt64) (0 : Int64) (1 : Int64) hf _ _ _ hI (lv_sub hl [] rfl)
    · have hf := ite_t c5 hf
      refine lv_lconst (v := 0) hx hb (dc tbX7_isTool_k 12 rfl) (by decide) ?_
      refine lv_goto (tgt := 25) hx hb (dc tbX7_isTool_k 13 rfl) rfl ?_
      exact tX7_isTool_b25 C  ((x1).toInt64) (0 : Int64) (0 : Int64) hf _ _ _ hI (lv_sub hl [] rfl)
theorem cs_X7_isTool : csF yX7_isTool cX7_isTool 2 (some .boolean) 2 := ⟨q_t8_132, q_t1_11, q_t8_133, by decide +kernel⟩
def mX7_tool (k0 : Nat) (x1 : Int32) (x2 : Int32) (M : Mem) : Option (Mem × Int32) := cap (mX7_isTool x1 x2 M) (fun r2 => cal (mX7_good k0 r2 M) (fun M6 r5 => ite2 (r5 = 0) (some (M6, (0 : Int32))) (chk (okb (((39 : Int32) + ((2 : Int32) * x1)) + x2) 86) (some (M6, (rd M6 (k0 + 1) ((((39 : Int32) + ((2 : Int32) * x1)) + x2)).toNatClampNeg))))))
set_option maxHeartbeats 4000000 in
set_option maxRecDepth 100000 in
theorem tX7_tool (l : Launch) {G : GT} {kd : Nat → Nat × Nat} {ad : Nat → Nat} {k0 : Nat} (hk0 : kModel kd k0) {x1 : Int32} {x2 : Int32} {M : Mem} {MO : Mem} {vo : Int32} (hf : mX7_tool k0 x1 x2 M = some (MO, vo)) (n : Nat) : Met l yX7_tool (Cond.code yX7_tool cX7_tool 3 (some .int) :: WA) (rmO 2 0 0) (Pg G kd ad n [.ref (ad k0), .int x1, .int x2] M) (Qg G kd ad n MO (some (.int vo))) 0 0 (AS kd ad n) := by
  refine g_body (own := RX7) (by decide) rfl ?_ (Nat.le_of_ble_eq_true rfl)
  intro p e s m args below meth c C _ H locs ls hI hl
  obtain ⟨hx, hb, hml, hr, hown, hts, hlk, hK, hap, hsx⟩ := id C
  have hl : lv_has ls 3 [(0, .ref (ad k0)), (1, .int x1), (2, .int x2)] := hl
  unfold mX7_tool at hf
  refine lv_aload_n hx hb (dc tbX7_tool_k 0 rfl) rfl (lv_at hl 0 rfl) ?_
  refine lv_iload_n hx hb (dc tbX7_tool_k 1 rfl) rfl (lv_at hl 1 rfl) ?_
  refine lv_iload_n hx hb (dc tbX7_tool_k 2 rfl) rfl (lv_at hl 2 rfl) ?_
  obtain ⟨r2, q1, hf⟩ := cap_s hf
  refine g_callSi hx hb hml hown hts hK hap hsx hI (tX7_isTool l  q1 H.size) cs_X7_isTool q_t8_131 rfl rfl ⟨Nat.le_of_ble_eq_true rfl, Nat.le_of_ble_eq_true rfl⟩ rfl hl.1 rfl (Nat.le_of_ble_eq_true rfl) (dc tbX7_tool_k 3 rfl) ⟨Nat.le_of_ble_eq_true rfl, Nat.le_of_ble_eq_true rfl⟩ (fun H locs hI => ?_)
  obtain ⟨M6, r5, q4, hf⟩ := cal_s hf
  refine g_callVi hx hb hml hown hts hK hap hsx hI (tX7_good l hk0 q4 H.size) cv_X7_good q_t8_56 rfl rfl ⟨Nat.le_of_ble_eq_true rfl, Nat.le_of_ble_eq_true rfl⟩ hk0.1 (by simp) rfl rfl rfl hl.1 rfl (Nat.le_of_ble_eq_true rfl) (dc tbX7_tool_k 4 rfl) ⟨Nat.le_of_ble_eq_true rfl, Nat.le_of_ble_eq_true rfl⟩ (fun H locs hI => ?_)
  refine lv_if_eq (tgt := 28) hx hb (dc tbX7_tool_k 5 rfl) rfl (fun c7 => ?_) (fun c7 => ?_)
  · have hf := ite_t c7 hf
    refine lv_iconst (v := 0) hx hb (dc tbX7_tool_k 17 rfl) ic_0 ?_
    cases hf
    exact g_iret hx hb hr hlk hI (dc tbX7_tool_k 18 rfl)
  · have hf := ite_f c7 hf
    refine lv_aload_n hx hb (dc tbX7_tool_k 6 rfl) rfl (lv_at hl 0 rfl) ?_
    refine gg7_0 hx hb hts hown hK hI hk0.1 q_t7_76 (dc tbX7_tool_k 7 rfl) ?_
    refine lv_bipush (v := 39) hx hb (dc tbX7_tool_k 8 rfl) bp_39 ?_
    refine lv_iconst (v := 2) hx hb (dc tbX7_tool_k 9 rfl) ic_2 ?_
    refine lv_iload_n hx hb (dc tbX7_tool_k 10 rfl) rfl (lv_at hl 1 rfl) ?_
    refine lv_imul hx hb (dc tbX7_tool_k 11 rfl) ?_
    refine lv_iadd hx hb (dc tbX7_tool_k 12 rfl) ?_
    refine lv_iload_n hx hb (dc tbX7_tool_k 13 rfl) rfl (lv_at hl 2 rfl) ?_
    refine lv_iadd hx hb (dc tbX7_tool_k 14 rfl) ?_
    obtain ⟨h8, hf⟩ := chk_s hf
    refine g_iald hx hb hK hI hk0.2.1 (okb_in h8) (dc tbX7_tool_k 15 rfl) ?_
    refine lv_goto (tgt := 29) hx hb (dc tbX7_tool_k 16 rfl) rfl ?_
    cases hf
    exact g_iret hx hb hr hlk hI (dc tbX7_tool_k 18 rfl)
theorem cv_X7_tool : cvF RX7 yX7_tool cX7_tool 3 (some .int) 2 := ⟨q_t8_128, q_t8_129, q_t1_11, q_t8_130, by decide +kernel⟩
def mX7_isMirrored_b45 (k0 : Nat) (M : Mem) (ih5 : Int32 → Int32 → Int32 → Int32 → Option Int32) (x1 : Int32) (x2 : Int32) (x4 : Int32) (y0 : Int32) : Option Int32 := bnd (x4 + (1 : Int32)) (fun x4_46 => ih5 x1 x2 y0 x4_46)
set_option maxHeartbeats 4000000 in
set_option maxRecDepth 100000 in
theorem tX7_isMirrored_b45 {p : Program} {l : Launch} {e : Env} {s : State} {m : MethodId} {args : Array Value} {below : List Frame} {meth : Method} {c : Code} {G : GT} {kd : Nat → Nat × Nat} {ad : Nat → Nat} (C : Cx p s m args meth c cX7_isMirrored 5 (some .boolean) RX7 G kd ad) {k0 : Nat} (hk0 : kModel kd k0) {M : Mem} {vo : Int32} {ih5 : Int32 → Int32 → Int32 → Int32 → Option Int32} (hih5 : ∀ (x1 : Int32) (x2 : Int32) (x3 : Int32) (x4 : Int32), ih5 x1 x2 x3 x4 = some vo → At p l e (rmO 0 0 0) s m args below meth c 0 0 (MQ below (Qg G kd ad s.heap.size M (some (.int vo))) args s 0 0 (AS kd ad s.heap.size)) G kd ad 5 5 [(0, .ref (ad k0)), (1, .int x1), (2, .int x2), (3, .int x3), (4, .int x4)] [] M) : ∀ (x1 : Int32) (x2 : Int32) (x4 : Int32) (y0 : Int32), mX7_isMirrored_b45 k0 M ih5 x1 x2 x4 y0 = some vo → At p l e (rmO 0 0 0) s m args below meth c 0 0 (MQ below (Qg G kd ad s.heap.size M (some (.int vo))) args s 0 0 (AS kd ad s.heap.size)) G kd ad 5 45 [(0, .ref (ad k0)), (1, .int x1), (2, .int x2), (4, .int x4)] [.int y0] M := by
  intro x1 x2 x4 y0 hf H locs ls hI hl
  obtain ⟨hx, hb, hml, hr, hown, hts, hlk, hK, hap, hsx⟩ := id C
  unfold mX7_isMirrored_b45 at hf
  refine lv_istore_n (lv' := [(3, .int y0), (0, .ref (ad k0)), (1, .int x1), (2, .int x2), (4, .int x4)]) hx hb (dc tbX7_isMirrored_k 29 rfl) rfl hl (by decide) rfl (fun ls hl => ?_)
  obtain ⟨x4_46, e4, hf⟩ := bnd_s hf
  refine lv_iinc (v := x4_46) (lv' := [(4, .int x4_46), (3, .int y0), (0, .ref (ad k0)), (1, .int x1), (2, .int x2)]) hx hb (dc tbX7_isMirrored_k 30 rfl) hl (k := 4) rfl (ii_e e4 ic_1) (by decide) rfl (fun ls hl => ?_)
  refine lv_goto (tgt := 5) hx hb (dc tbX7_isMirrored_k 31 rfl) rfl ?_
  exact hih5 x1 x2 y0 x4_46 hf _ _ _ hI (lv_sub hl [2, 3, 4, 1, 0] rfl)
def mX7_isMirrored_b44 (k0 : Nat) (M : Mem) (ih5 : Int32 → Int32 → Int32 → Int32 → Option Int32) (x1 : Int32) (x2 : Int32) (x4 : Int32) : Option Int32 := mX7_isMirrored_b45 k0 M ih5 x1 x2 x4 (0 : Int32)
set_option maxHeartbeats 4000000 in
set_option maxRecDepth 100000 in
theorem tX7_isMirrored_b44 {p : Program} {l : Launch} {e : Env} {s : State} {m : MethodId} {args : Array Value} {below : List Frame} {meth : Method} {c : Code} {G : GT} {kd : Nat → Nat × Nat} {ad : Nat → Nat} (C : Cx p s m args meth c cX7_isMirrored 5 (some .boolean) RX7 G kd ad) {k0 : Nat} (hk0 : kModel kd k0) {M : Mem} {vo : Int32} {ih5 : Int32 → Int32 → Int32 → Int32 → Option Int32} (hih5 : ∀ (x1 : Int32) (x2 : Int32) (x3 : Int32) (x4 : Int32), ih5 x1 x2 x3 x4 = some vo → At p l e (rmO 0 0 0) s m args below meth c 0 0 (MQ below (Qg G kd ad s.heap.size M (some (.int vo))) args s 0 0 (AS kd ad s.heap.size)) G kd ad 5 5 [(0, .ref (ad k0)), (1, .int x1), (2, .int x2), (3, .int x3), (4, .int x4)] [] M) : ∀ (x1 : Int32) (x2 : Int32) (x4 : Int32), mX7_isMirrored_b44 k0 M ih5 x1 x2 x4 = some vo → At p l e (rmO 0 0 0) s m args below meth c 0 0 (MQ below (Qg G kd ad s.heap.size M (some (.int vo))) args s 0 0 (AS kd ad s.heap.size)) G kd ad 5 44 [(0, .ref (ad k0)), (1, .int x1), (2, .int x2), (4, .int x4)] [] M := by
  intro x1 x2 x4 hf H locs ls hI hl
  obtain ⟨hx, hb, hml, hr, hown, hts, hlk, hK, hap, hsx⟩ := id C
  unfold mX7_isMirrored_b44 at hf
  refine lv_iconst (v := 0) hx hb (dc tbX7_isMirrored_k 28 rfl) ic_0 ?_
  exact tX7_isMirrored_b45 C hk0 hih5 x1 x2 x4 (0 : Int32) hf _ _ _ hI (lv_sub hl [0, 1, 2, 3] rfl)
def mX7_isMirrored_b5 (k0 : Nat) (M : Mem) (ih5 : Int32 → Int32 → Int32 → Int32 → Option Int32) (x1 : Int32) (x2 : Int32) (x3 : Int32) (x4 : Int32) : Option Int32 := ite2 (x2 ≤ x4) (chk (isB x3) (some x3)) (ite2 (x3 = 0) (mX7_isMirrored_b44 k0 M ih5 x1 x2 x4) (chk (okb (x1 + x4) 86) (chk (okb (((x1 + x2) - (1 : Int32)) - x4) 86) (ite2 ((rd M (k0 + 1) ((x1 + x4)).toNatClampNeg) = (rd M (k0 + 1) ((((x1 + x2) - (1 : Int32)) - x4)).toNatClampNeg)) (mX7_isMirrored_b45 k0 M ih5 x1 x2 x4 (1 : Int32)) (mX7_isMirrored_b44 k0 M ih5 x1 x2 x4)))))
set_option maxHeartbeats 4000000 in
set_option maxRecDepth 100000 in
theorem tX7_isMirrored_b5 {p : Program} {l : Launch} {e : Env} {s : State} {m : MethodId} {args : Array Value} {below : List Frame} {meth : Method} {c : Code} {G : GT} {kd : Nat → Nat × Nat} {ad : Nat → Nat} (C : Cx p s m args meth c cX7_isMirrored 5 (some .boolean) RX7 G kd ad) {k0 : Nat} (hk0 : kModel kd k0) {M : Mem} {vo : Int32} {ih5 : Int32 → Int32 → Int32 → Int32 → Option Int32} (hih5 : ∀ (x1 : Int32) (x2 : Int32) (x3 : Int32) (x4 : Int32), ih5 x1 x2 x3 x4 = some vo → At p l e (rmO 0 0 0) s m args below meth c 0 0 (MQ below (Qg G kd ad s.heap.size M (some (.int vo))) args s 0 0 (AS kd ad s.heap.size)) G kd ad 5 5 [(0, .ref (ad k0)), (1, .int x1), (2, .int x2), (3, .int x3), (4, .int x4)] [] M) : ∀ (x1 : Int32) (x2 : Int32) (x3 : Int32) (x4 : Int32), mX7_isMirrored_b5 k0 M ih5 x1 x2 x3 x4 = some vo → At p l e (rmO 0 0 0) s m args below meth c 0 0 (MQ below (Qg G kd ad s.heap.size M (some (.int vo))) args s 0 0 (AS kd ad s.heap.size)) G kd ad 5 5 [(0, .ref (ad k0)), (1, .int x1), (2, .int x2), (3, .int x3), (4, .int x4)] [] M := by
  intro x1 x2 x3 x4 hf H locs ls hI hl
  obtain ⟨hx, hb, hml, hr, hown, hts, hlk, hK, hap, hsx⟩ := id C
  unfold mX7_isMirrored_b5 at hf
  refine lv_iload hx hb (dc tbX7_isMirrored_k 4 rfl) (lv_at hl 4 rfl) ?_
  refine lv_iload_n hx hb (dc tbX7_isMirrored_k 5 rfl) rfl (lv_at hl 2 rfl) ?_
  refine lv_icmp_ge (tgt := 52) hx hb (dc tbX7_isMirrored_k 6 rfl) rfl (fun c1 => ?_) (fun c1 => ?_)
  · have hf := ite_t c1 hf
    refine lv_iload_n hx hb (dc tbX7_isMirrored_k 32 rfl) rfl (lv_at hl 3 rfl) ?_
    obtain ⟨h2, hf⟩ := chk_s hf
    cases hf
    exact g_zret hx hb hr hlk hI (isB_n h2) (dc tbX7_isMirrored_k 33 rfl)
  · have hf := ite_f c1 hf
    refine lv_iload_n hx hb (dc tbX7_isMirrored_k 7 rfl) rfl (lv_at hl 3 rfl) ?_
    refine lv_if_eq (tgt := 44) hx hb (dc tbX7_isMirrored_k 8 rfl) rfl (fun c3 => ?_) (fun c3 => ?_)
    · have hf := ite_t c3 hf
      exact tX7_isMirrored_b44 C hk0 hih5 x1 x2 x4 hf _ _ _ hI (lv_sub hl [0, 1, 2, 4] rfl)
    · have hf := ite_f c3 hf
      refine lv_aload_n hx hb (dc tbX7_isMirrored_k 9 rfl) rfl (lv_at hl 0 rfl) ?_
      refine gg7_0 hx hb hts hown hK hI hk0.1 q_t7_76 (dc tbX7_isMirrored_k 10 rfl) ?_
      refine lv_iload_n hx hb (dc tbX7_isMirrored_k 11 rfl) rfl (lv_at hl 1 rfl) ?_
      refine lv_iload hx hb (dc tbX7_isMirrored_k 12 rfl) (lv_at hl 4 rfl) ?_
      refine lv_iadd hx hb (dc tbX7_isMirrored_k 13 rfl) ?_
      obtain ⟨h5, hf⟩ := chk_s hf
      refine g_iald hx hb hK hI hk0.2.1 (okb_in h5) (dc tbX7_isMirrored_k 14 rfl) ?_
      refine lv_aload_n hx hb (dc tbX7_isMirrored_k 15 rfl) rfl (lv_at hl 0 rfl) ?_
      refine gg7_0 hx hb hts hown hK hI hk0.1 q_t7_76 (dc tbX7_isMirrored_k 16 rfl) ?_
      refine lv_iload_n hx hb (dc tbX7_isMirrored_k 17 rfl) rfl (lv_at hl 1 rfl) ?_
      refine lv_iload_n hx hb (dc tbX7_isMirrored_k 18 rfl) rfl (lv_at hl 2 rfl) ?_
      refine lv_iadd hx hb (dc tbX7_isMirrored_k 19 rfl) ?_
      refine lv_iconst (v := 1) hx hb (dc tbX7_isMirrored_k 20 rfl) ic_1 ?_
      refine lv_isub hx hb (dc tbX7_isMirrored_k 21 rfl) ?_
      refine lv_iload hx hb (dc tbX7_isMirrored_k 22 rfl) (lv_at hl 4 rfl) ?_
      refine lv_isub hx hb (dc tbX7_isMirrored_k 23 rfl) ?_
      obtain ⟨h6, hf⟩ := chk_s hf
      refine g_iald hx hb hK hI hk0.2.1 (okb_in h6) (dc tbX7_isMirrored_k 24 rfl) ?_
      refine lv_icmp_ne (tgt := 44) hx hb (dc tbX7_isMirrored_k 25 rfl) rfl (fun c7 => ?_) (fun c7 => ?_)
      · have hf := ite_f c7 hf
        exact tX7_isMirrored_b44 C hk0 hih5 x1 x2 x4 hf _ _ _ hI (lv_sub hl [0, 1, 2, 4] rfl)
      · have hf := ite_t c7 hf
        refine lv_iconst (v := 1) hx hb (dc tbX7_isMirrored_k 26 rfl) ic_1 ?_
        refine lv_goto (tgt := 45) hx hb (dc tbX7_isMirrored_k 27 rfl) rfl ?_
        exact tX7_isMirrored_b45 C hk0 hih5 x1 x2 x4 (1 : Int32) hf _ _ _ hI (lv_sub hl [0, 1, 2, 4] rfl)
def mX7_isMirrored_l5 (k0 : Nat) (M : Mem) : Nat → Int32 → Int32 → Int32 → Int32 → Option Int32
  | 0 => fun _ _ _ _ => none
  | n + 1 => mX7_isMirrored_b5 k0 M (mX7_isMirrored_l5 k0 M n)
theorem tX7_isMirrored_l5 {p : Program} {l : Launch} {e : Env} {s : State} {m : MethodId} {args : Array Value} {below : List Frame} {meth : Method} {c : Code} {G : GT} {kd : Nat → Nat × Nat} {ad : Nat → Nat} (C : Cx p s m args meth c cX7_isMirrored 5 (some .boolean) RX7 G kd ad) {k0 : Nat} (hk0 : kModel kd k0) {M : Mem} {vo : Int32}   : ∀ (fuel : Nat) (x1 : Int32) (x2 : Int32) (x3 : Int32) (x4 : Int32), mX7_isMirrored_l5 k0 M fuel x1 x2 x3 x4 = some vo → At p l e (rmO 0 0 0) s m args below meth c 0 0 (MQ below (Qg G kd ad s.heap.size M (some (.int vo))) args s 0 0 (AS kd ad s.heap.size)) G kd ad 5 5 [(0, .ref (ad k0)), (1, .int x1), (2, .int x2), (3, .int x3), (4, .int x4)] [] M := by
  intro fuel
  induction fuel with
  | zero => intro x1 x2 x3 x4 hf; cases hf
  | succ n IH => exact tX7_isMirrored_b5 C hk0 IH
def mX7_isMirrored (k0 : Nat) (x1 : Int32) (x2 : Int32) (M : Mem) : Option Int32 := mX7_isMirrored_l5 k0 M 5000 x1 x2 (1 : Int32) (0 : Int32)
set_option maxHeartbeats 4000000 in
set_option maxRecDepth 100000 in
theorem tX7_isMirrored (l : Launch) {G : GT} {kd : Nat → Nat × Nat} {ad : Nat → Nat} {k0 : Nat} (hk0 : kModel kd k0) {x1 : Int32} {x2 : Int32} {M : Mem} {vo : Int32} (hf : mX7_isMirrored k0 x1 x2 M = some vo) (n : Nat) : Met l yX7_isMirrored (Cond.code yX7_isMirrored cX7_isMirrored 5 (some .boolean) :: WA) (rmO 0 0 0) (Pg G kd ad n [.ref (ad k0), .int x1, .int x2] M) (Qg G kd ad n M (some (.int vo))) 0 0 (AS kd ad n) := by
  refine g_body (own := RX7) (by decide) rfl ?_ (Nat.le_of_ble_eq_true rfl)
  intro p e s m args below meth c C _ H locs ls hI hl
  obtain ⟨hx, hb, hml, hr, hown, hts, hlk, hK, hap, hsx⟩ := id C
  have hl : lv_has ls 5 [(0, .ref (ad k0)), (1, .int x1), (2, .int x2)] := hl
  unfold mX7_isMirrored at hf
  refine lv_iconst (v := 1) hx hb (dc tbX7_isMirrored_k 0 rfl) ic_1 ?_
  refine lv_istore_n (lv' := [(3, .int (1 : Int32)), (0, .ref (ad k0)), (1, .int x1), (2, .int x2)]) hx hb (dc tbX7_isMirrored_k 1 rfl) rfl hl (by decide) rfl (fun ls hl => ?_)
  refine lv_iconst (v := 0) hx hb (dc tbX7_isMirrored_k 2 rfl) ic_0 ?_
  refine lv_istore (lv' := [(4, .int (0 : Int32)), (3, .int (1 : Int32)), (0, .ref (ad k0)), (1, .int x1), (2, .int x2)]) hx hb (dc tbX7_isMirrored_k 3 rfl) hl (by decide) rfl (fun ls hl => ?_)
  exact tX7_isMirrored_l5 C hk0 5000 x1 x2 (1 : Int32) (0 : Int32) hf _ _ _ hI (lv_sub hl [2, 3, 4, 1, 0] rfl)
theorem cv_X7_isMirrored : cvF RX7 yX7_isMirrored cX7_isMirrored 5 (some .boolean) 2 := ⟨q_t8_141, q_s4_14, q_t1_11, q_t8_142, by decide +kernel⟩
def mX7_isSymmetric (k0 : Nat) (M : Mem) : Option (Mem × Int32) := bnd (wr M k0 5 (0 : Int32)) (fun M1 => chk (okb (1 : Int32) 86) (cap (mX7_isMirrored k0 (2 : Int32) (rd M1 (k0 + 1) ((1 : Int32)).toNatClampNeg) M1) (fun r5 => ite2 (r5 = 0) (some (M1, (0 : Int32))) (chk (okb (0 : Int32) 86) (cap (mX7_isMirrored k0 (11 : Int32) (rd M1 (k0 + 1) ((0 : Int32)).toNatClampNeg) M1) (fun r10 => ite2 (r10 = 0) (some (M1, (0 : Int32))) (some (M1, (1 : Int32)))))))))
set_option maxHeartbeats 4000000 in
set_option maxRecDepth 100000 in
theorem tX7_isSymmetric (l : Launch) {G : GT} {kd : Nat → Nat × Nat} {ad : Nat → Nat} {k0 : Nat} (hk0 : kModel kd k0) {M : Mem} {MO : Mem} {vo : Int32} (hf : mX7_isSymmetric k0 M = some (MO, vo)) (n : Nat) : Met l yX7_isSymmetric (Cond.code yX7_isSymmetric cX7_isSymmetric 1 (some .boolean) :: WA) (rmO 1 0 0) (Pg G kd ad n [.ref (ad k0)] M) (Qg G kd ad n MO (some (.int vo))) 0 0 (AS kd ad n) := by
  refine g_body (own := RX7) (by decide) rfl ?_ (Nat.le_of_ble_eq_true rfl)
  intro p e s m args below meth c C _ H locs ls hI hl
  obtain ⟨hx, hb, hml, hr, hown, hts, hlk, hK, hap, hsx⟩ := id C
  have hl : lv_has ls 1 [(0, .ref (ad k0))] := hl
  unfold mX7_isSymmetric at hf
  refine lv_aload_n hx hb (dc tbX7_isSymmetric_k 0 rfl) rfl (lv_at hl 0 rfl) ?_
  refine lv_iconst (v := 0) hx hb (dc tbX7_isSymmetric_k 1 rfl) ic_0 ?_
  obtain ⟨M1, e2, hf⟩ := bnd_s hf
  refine gp7_5 hx hb hts hown hK hap hI hk0.1 q_t7_81 (dc tbX7_isSymmetric_k 2 rfl) e2 (fun H locs hI => ?_)
  refine lv_aload_n hx hb (dc tbX7_isSymmetric_k 3 rfl) rfl (lv_at hl 0 rfl) ?_
  refine lv_iconst (v := 2) hx hb (dc tbX7_isSymmetric_k 4 rfl) ic_2 ?_
  refine lv_aload_n hx hb (dc tbX7_isSymmetric_k 5 rfl) rfl (lv_at hl 0 rfl) ?_
  refine gg7_0 hx hb hts hown hK hI hk0.1 q_t7_76 (dc tbX7_isSymmetric_k 6 rfl) ?_
  refine lv_iconst (v := 1) hx hb (dc tbX7_isSymmetric_k 7 rfl) ic_1 ?_
  obtain ⟨h3, hf⟩ := chk_s hf
  refine g_iald hx hb hK hI hk0.2.1 (okb_in h3) (dc tbX7_isSymmetric_k 8 rfl) ?_
  obtain ⟨r5, q4, hf⟩ := cap_s hf
  refine g_callVi hx hb hml hown hts hK hap hsx hI (tX7_isMirrored l hk0 q4 H.size) cv_X7_isMirrored q_t8_139 rfl rfl ⟨Nat.le_of_ble_eq_true rfl, Nat.le_of_ble_eq_true rfl⟩ hk0.1 (by simp) rfl rfl rfl hl.1 rfl (Nat.le_of_ble_eq_true rfl) (dc tbX7_isSymmetric_k 9 rfl) ⟨Nat.le_of_ble_eq_true rfl, Nat.le_of_ble_eq_true rfl⟩ (fun H locs hI => ?_)
  refine lv_if_eq (tgt := 38) hx hb (dc tbX7_isSymmetric_k 10 rfl) rfl (fun c7 => ?_) (fun c7 => ?_)
  · have hf := ite_t c7 hf
    refine lv_iconst (v := 0) hx hb (dc tbX7_isSymmetric_k 21 rfl) ic_0 ?_
    cases hf
    exact g_zret hx hb hr hlk hI rfl (dc tbX7_isSymmetric_k 22 rfl)
  · have hf := ite_f c7 hf
    refine lv_aload_n hx hb (dc tbX7_isSymmetric_k 11 rfl) rfl (lv_at hl 0 rfl) ?_
    refine lv_bipush (v := 11) hx hb (dc tbX7_isSymmetric_k 12 rfl) bp_11 ?_
    refine lv_aload_n hx hb (dc tbX7_isSymmetric_k 13 rfl) rfl (lv_at hl 0 rfl) ?_
    refine gg7_0 hx hb hts hown hK hI hk0.1 q_t7_76 (dc tbX7_isSymmetric_k 14 rfl) ?_
    refine lv_iconst (v := 0) hx hb (dc tbX7_isSymmetric_k 15 rfl) ic_0 ?_
    obtain ⟨h8, hf⟩ := chk_s hf
    refine g_iald hx hb hK hI hk0.2.1 (okb_in h8) (dc tbX7_isSymmetric_k 16 rfl) ?_
    obtain ⟨r10, q9, hf⟩ := cap_s hf
    refine g_callVi hx hb hml hown hts hK hap hsx hI (tX7_isMirrored l hk0 q9 H.size) cv_X7_isMirrored q_t8_139 rfl rfl ⟨Nat.le_of_ble_eq_true rfl, Nat.le_of_ble_eq_true rfl⟩ hk0.1 (by simp) rfl rfl rfl hl.1 rfl (Nat.le_of_ble_eq_true rfl) (dc tbX7_isSymmetric_k 17 rfl) ⟨Nat.le_of_ble_eq_true rfl, Nat.le_of_ble_eq_true rfl⟩ (fun H locs hI => ?_)
    refine lv_if_eq (tgt := 38) hx hb (dc tbX7_isSymmetric_k 18 rfl) rfl (fun c12 => ?_) (fun c12 => ?_)
    · have hf := ite_t c12 hf
      refine lv_iconst (v := 0) hx hb (dc tbX7_isSymmetric_k 21 rfl) ic_0 ?_
      cases hf
      exact g_zret hx hb hr hlk hI rfl (dc tbX7_isSymmetric_k 22 rfl)
    · have hf := ite_f c12 hf
      refine lv_iconst (v := 1) hx hb (dc tbX7_isSymmetric_k 19 rfl) ic_1 ?_
      refine lv_goto (tgt := 39) hx hb (dc tbX7_isSymmetric_k 20 rfl) rfl ?_
      cases hf
      exact g_zret hx hb hr hlk hI rfl (dc tbX7_isSymmetric_k 22 rfl)
theorem cv_X7_isSymmetric : cvF RX7 yX7_isSymmetric cX7_isSymmetric 1 (some .boolean) 0 := ⟨q_t8_136, q_t8_137, q_t1_11, q_t8_138, by decide +kernel⟩
def mX7_longestLeg_b48 (k0 : Nat) (ih9 : Int32 → Int32 → Mem → Option (Mem × Int32)) (x2 : Int32) (y0 : Int32) (M : Mem) : Option (Mem × Int32) := bnd (x2 + (1 : Int32)) (fun x2_49 => ih9 y0 x2_49 M)
set_option maxHeartbeats 4000000 in
set_option maxRecDepth 100000 in
theorem tX7_longestLeg_b48 {p : Program} {l : Launch} {e : Env} {s : State} {m : MethodId} {args : Array Value} {below : List Frame} {meth : Method} {c : Code} {G : GT} {kd : Nat → Nat × Nat} {ad : Nat → Nat} (C : Cx p s m args meth c cX7_longestLeg 3 (some .int) RX7 G kd ad) {k0 : Nat} (hk0 : kModel kd k0) {MO : Mem} {vo : Int32} {ih9 : Int32 → Int32 → Mem → Option (Mem × Int32)} (hih9 : ∀ (x1 : Int32) (x2 : Int32) (M : Mem), ih9 x1 x2 M = some (MO, vo) → At p l e (rmO 0 0 0) s m args below meth c 0 0 (MQ below (Qg G kd ad s.heap.size MO (some (.int vo))) args s 0 0 (AS kd ad s.heap.size)) G kd ad 3 9 [(0, .ref (ad k0)), (1, .int x1), (2, .int x2)] [] M) : ∀ (x2 : Int32) (y0 : Int32) (M : Mem), mX7_longestLeg_b48 k0 ih9 x2 y0 M = some (MO, vo) → At p l e (rmO 0 0 0) s m args below meth c 0 0 (MQ below (Qg G kd ad s.heap.size MO (some (.int vo))) args s 0 0 (AS kd ad s.heap.size)) G kd ad 3 48 [(0, .ref (ad k0)), (2, .int x2)] [.int y0] M := by
  intro x2 y0 M hf H locs ls hI hl
  obtain ⟨hx, hb, hml, hr, hown, hts, hlk, hK, hap, hsx⟩ := id C
  unfold mX7_longestLeg_b48 at hf
  refine lv_istore_n (lv' := [(1, .int y0), (0, .ref (ad k0)), (2, .int x2)]) hx hb (dc tbX7_longestLeg_k 32 rfl) rfl hl (by decide) rfl (fun ls hl => ?_)
  obtain ⟨x2_49, e6, hf⟩ := bnd_s hf
  refine lv_iinc (v := x2_49) (lv' := [(2, .int x2_49), (1, .int y0), (0, .ref (ad k0))]) hx hb (dc tbX7_longestLeg_k 33 rfl) hl (k := 2) rfl (ii_e e6 ic_1) (by decide) rfl (fun ls hl => ?_)
  refine lv_goto (tgt := 9) hx hb (dc tbX7_longestLeg_k 34 rfl) rfl ?_
  exact hih9 y0 x2_49 M hf _ _ _ hI (lv_sub hl [2, 1, 0] rfl)
def mX7_longestLeg_b43 (k0 : Nat) (ih9 : Int32 → Int32 → Mem → Option (Mem × Int32)) (x2 : Int32) (M : Mem) : Option (Mem × Int32) := mX7_longestLeg_b48 k0 ih9 x2 x2 M
set_option maxHeartbeats 4000000 in
set_option maxRecDepth 100000 in
theorem tX7_longestLeg_b43 {p : Program} {l : Launch} {e : Env} {s : State} {m : MethodId} {args : Array Value} {below : List Frame} {meth : Method} {c : Code} {G : GT} {kd : Nat → Nat × Nat} {ad : Nat → Nat} (C : Cx p s m args meth c cX7_longestLeg 3 (some .int) RX7 G kd ad) {k0 : Nat} (hk0 : kModel kd k0) {MO : Mem} {vo : Int32} {ih9 : Int32 → Int32 → Mem → Option (Mem × Int32)} (hih9 : ∀ (x1 : Int32) (x2 : Int32) (M : Mem), ih9 x1 x2 M = some (MO, vo) → At p l e (rmO 0 0 0) s m args below meth c 0 0 (MQ below (Qg G kd ad s.heap.size MO (some (.int vo))) args s 0 0 (AS kd ad s.heap.size)) G kd ad 3 9 [(0, .ref (ad k0)), (1, .int x1), (2, .int x2)] [] M) : ∀ (x2 : Int32) (M : Mem), mX7_longestLeg_b43 k0 ih9 x2 M = some (MO, vo) → At p l e (rmO 0 0 0) s m args below meth c 0 0 (MQ below (Qg G kd ad s.heap.size MO (some (.int vo))) args s 0 0 (AS kd ad s.heap.size)) G kd ad 3 43 [(0, .ref (ad k0)), (2, .int x2)] [] M := by
  intro x2 M hf H locs ls hI hl
  obtain ⟨hx, hb, hml, hr, hown, hts, hlk, hK, hap, hsx⟩ := id C
  unfold mX7_longestLeg_b43 at hf
  refine lv_iload_n hx hb (dc tbX7_longestLeg_k 29 rfl) rfl (lv_at hl 1 rfl) ?_
  refine lv_goto (tgt := 48) hx hb (dc tbX7_longestLeg_k 30 rfl) rfl ?_
  exact tX7_longestLeg_b48 C hk0 hih9 x2 x2 M hf _ _ _ hI (lv_sub hl [0, 1] rfl)
def mX7_longestLeg_b9 (k0 : Nat) (ih9 : Int32 → Int32 → Mem → Option (Mem × Int32)) (x1 : Int32) (x2 : Int32) (M : Mem) : Option (Mem × Int32) := chk (okb (1 : Int32) 86) (ite2 ((rd M (k0 + 1) ((1 : Int32)).toNatClampNeg) ≤ x2) (some (M, x1)) (ite2 (x1 = (-1 : Int32)) (mX7_longestLeg_b43 k0 ih9 x2 M) (chk (okb ((2 : Int32) + x2) 86) (chk (okb ((2 : Int32) + x1) 86) (ite2 ((rd M (k0 + 1) (((2 : Int32) + x2)).toNatClampNeg) ≤ (rd M (k0 + 1) (((2 : Int32) + x1)).toNatClampNeg)) (mX7_longestLeg_b48 k0 ih9 x2 x1 M) (mX7_longestLeg_b43 k0 ih9 x2 M))))))
set_option maxHeartbeats 4000000 in
set_option maxRecDepth 100000 in
theorem tX7_longestLeg_b9 {p : Program} {l : Launch} {e : Env} {s : State} {m : MethodId} {args : Array Value} {below : List Frame} {meth : Method} {c : Code} {G : GT} {kd : Nat → Nat × Nat} {ad : Nat → Nat} (C : Cx p s m args meth c cX7_longestLeg 3 (some .int) RX7 G kd ad) {k0 : Nat} (hk0 : kModel kd k0) {MO : Mem} {vo : Int32} {ih9 : Int32 → Int32 → Mem → Option (Mem × Int32)} (hih9 : ∀ (x1 : Int32) (x2 : Int32) (M : Mem), ih9 x1 x2 M = some (MO, vo) → At p l e (rmO 0 0 0) s m args below meth c 0 0 (MQ below (Qg G kd ad s.heap.size MO (some (.int vo))) args s 0 0 (AS kd ad s.heap.size)) G kd ad 3 9 [(0, .ref (ad k0)), (1, .int x1), (2, .int x2)] [] M) : ∀ (x1 : Int32) (x2 : Int32) (M : Mem), mX7_longestLeg_b9 k0 ih9 x1 x2 M = some (MO, vo) → At p l e (rmO 0 0 0) s m args below meth c 0 0 (MQ below (Qg G kd ad s.heap.size MO (some (.int vo))) args s 0 0 (AS kd ad s.heap.size)) G kd ad 3 9 [(0, .ref (ad k0)), (1, .int x1), (2, .int x2)] [] M := by
  intro x1 x2 M hf H locs ls hI hl
  obtain ⟨hx, hb, hml, hr, hown, hts, hlk, hK, hap, hsx⟩ := id C
  unfold mX7_longestLeg_b9 at hf
  refine lv_iload_n hx hb (dc tbX7_longestLeg_k 7 rfl) rfl (lv_at hl 2 rfl) ?_
  refine lv_aload_n hx hb (dc tbX7_longestLeg_k 8 rfl) rfl (lv_at hl 0 rfl) ?_
  refine gg7_0 hx hb hts hown hK hI hk0.1 q_t7_76 (dc tbX7_longestLeg_k 9 rfl) ?_
  refine lv_iconst (v := 1) hx hb (dc tbX7_longestLeg_k 10 rfl) ic_1 ?_
  obtain ⟨h3, hf⟩ := chk_s hf
  refine g_iald hx hb hK hI hk0.2.1 (okb_in h3) (dc tbX7_longestLeg_k 11 rfl) ?_
  refine lv_icmp_ge (tgt := 55) hx hb (dc tbX7_longestLeg_k 12 rfl) rfl (fun c4 => ?_) (fun c4 => ?_)
  · have hf := ite_t c4 hf
    refine lv_iload_n hx hb (dc tbX7_longestLeg_k 35 rfl) rfl (lv_at hl 1 rfl) ?_
    cases hf
    exact g_iret hx hb hr hlk hI (dc tbX7_longestLeg_k 36 rfl)
  · have hf := ite_f c4 hf
    refine lv_iload_n hx hb (dc tbX7_longestLeg_k 13 rfl) rfl (lv_at hl 1 rfl) ?_
    refine lv_iconst (v := -1) hx hb (dc tbX7_longestLeg_k 14 rfl) ic_m1 ?_
    refine lv_icmp_eq (tgt := 43) hx hb (dc tbX7_longestLeg_k 15 rfl) rfl (fun c5 => ?_) (fun c5 => ?_)
    · have hf := ite_t c5 hf
      exact tX7_longestLeg_b43 C hk0 hih9 x2 M hf _ _ _ hI (lv_sub hl [0, 2] rfl)
    · have hf := ite_f c5 hf
      refine lv_aload_n hx hb (dc tbX7_longestLeg_k 16 rfl) rfl (lv_at hl 0 rfl) ?_
      refine gg7_0 hx hb hts hown hK hI hk0.1 q_t7_76 (dc tbX7_longestLeg_k 17 rfl) ?_
      refine lv_iconst (v := 2) hx hb (dc tbX7_longestLeg_k 18 rfl) ic_2 ?_
      refine lv_iload_n hx hb (dc tbX7_longestLeg_k 19 rfl) rfl (lv_at hl 2 rfl) ?_
      refine lv_iadd hx hb (dc tbX7_longestLeg_k 20 rfl) ?_
      obtain ⟨h7, hf⟩ := chk_s hf
      refine g_iald hx hb hK hI hk0.2.1 (okb_in h7) (dc tbX7_longestLeg_k 21 rfl) ?_
      refine lv_aload_n hx hb (dc tbX7_longestLeg_k 22 rfl) rfl (lv_at hl 0 rfl) ?_
      refine gg7_0 hx hb hts hown hK hI hk0.1 q_t7_76 (dc tbX7_longestLeg_k 23 rfl) ?_
      refine lv_iconst (v := 2) hx hb (dc tbX7_longestLeg_k 24 rfl) ic_2 ?_
      refine lv_iload_n hx hb (dc tbX7_longestLeg_k 25 rfl) rfl (lv_at hl 1 rfl) ?_
      refine lv_iadd hx hb (dc tbX7_longestLeg_k 26 rfl) ?_
      obtain ⟨h8, hf⟩ := chk_s hf
      refine g_iald hx hb hK hI hk0.2.1 (okb_in h8) (dc tbX7_longestLeg_k 27 rfl) ?_
      refine lv_icmp_le (tgt := 47) hx hb (dc tbX7_longestLeg_k 28 rfl) rfl (fun c9 => ?_) (fun c9 => ?_)
      · have hf := ite_t c9 hf
        refine lv_iload_n hx hb (dc tbX7_longestLeg_k 31 rfl) rfl (lv_at hl 1 rfl) ?_
        exact tX7_longestLeg_b48 C hk0 hih9 x2 x1 M hf _ _ _ hI (lv_sub hl [0, 2] rfl)
      · have hf := ite_f c9 hf
        exact tX7_longestLeg_b43 C hk0 hih9 x2 M hf _ _ _ hI (lv_sub hl [0, 2] rfl)
def mX7_longestLeg_l9 (k0 : Nat) : Nat → Int32 → Int32 → Mem → Option (Mem × Int32)
  | 0 => fun _ _ _ => none
  | n + 1 => mX7_longestLeg_b9 k0 (mX7_longestLeg_l9 k0 n)
theorem tX7_longestLeg_l9 {p : Program} {l : Launch} {e : Env} {s : State} {m : MethodId} {args : Array Value} {below : List Frame} {meth : Method} {c : Code} {G : GT} {kd : Nat → Nat × Nat} {ad : Nat → Nat} (C : Cx p s m args meth c cX7_longestLeg 3 (some .int) RX7 G kd ad) {k0 : Nat} (hk0 : kModel kd k0) {MO : Mem} {vo : Int32}   : ∀ (fuel : Nat) (x1 : Int32) (x2 : Int32) (M : Mem), mX7_longestLeg_l9 k0 fuel x1 x2 M = some (MO, vo) → At p l e (rmO 0 0 0) s m args below meth c 0 0 (MQ below (Qg G kd ad s.heap.size MO (some (.int vo))) args s 0 0 (AS kd ad s.heap.size)) G kd ad 3 9 [(0, .ref (ad k0)), (1, .int x1), (2, .int x2)] [] M := by
  intro fuel
  induction fuel with
  | zero => intro x1 x2 M hf; cases hf
  | succ n IH => exact tX7_longestLeg_b9 C hk0 IH
def mX7_longestLeg (k0 : Nat) (M : Mem) : Option (Mem × Int32) := bnd (wr M k0 5 (0 : Int32)) (fun M1 => mX7_longestLeg_l9 k0 5000 (-1 : Int32) (0 : Int32) M1)
set_option maxHeartbeats 4000000 in
set_option maxRecDepth 100000 in
theorem tX7_longestLeg (l : Launch) {G : GT} {kd : Nat → Nat × Nat} {ad : Nat → Nat} {k0 : Nat} (hk0 : kModel kd k0) {M : Mem} {MO : Mem} {vo : Int32} (hf : mX7_longestLeg k0 M = some (MO, vo)) (n : Nat) : Met l yX7_longestLeg (Cond.code yX7_longestLeg cX7_longestLeg 3 (some .int) :: WA) (rmO 0 0 0) (Pg G kd ad n [.ref (ad k0)] M) (Qg G kd ad n MO (some (.int vo))) 0 0 (AS kd ad n) := by
  refine g_body (own := RX7) (by decide) rfl ?_ (Nat.le_of_ble_eq_true rfl)
  intro p e s m args below meth c C _ H locs ls hI hl
  obtain ⟨hx, hb, hml, hr, hown, hts, hlk, hK, hap, hsx⟩ := id C
  have hl : lv_has ls 3 [(0, .ref (ad k0))] := hl
  unfold mX7_longestLeg at hf
  refine lv_aload_n hx hb (dc tbX7_longestLeg_k 0 rfl) rfl (lv_at hl 0 rfl) ?_
  refine lv_iconst (v := 0) hx hb (dc tbX7_longestLeg_k 1 rfl) ic_0 ?_
  obtain ⟨M1, e2, hf⟩ := bnd_s hf
  refine gp7_5 hx hb hts hown hK hap hI hk0.1 q_t7_81 (dc tbX7_longestLeg_k 2 rfl) e2 (fun H locs hI => ?_)
  refine lv_iconst (v := -1) hx hb (dc tbX7_longestLeg_k 3 rfl) ic_m1 ?_
  refine lv_istore_n (lv' := [(1, .int (-1 : Int32)), (0, .ref (ad k0))]) hx hb (dc tbX7_longestLeg_k 4 rfl) rfl hl (by decide) rfl (fun ls hl => ?_)
  refine lv_iconst (v := 0) hx hb (dc tbX7_longestLeg_k 5 rfl) ic_0 ?_
  refine lv_istore_n (lv' := [(2, .int (0 : Int32)), (1, .int (-1 : Int32)), (0, .ref (ad k0))]) hx hb (dc tbX7_longestLeg_k 6 rfl) rfl hl (by decide) rfl (fun ls hl => ?_)
  exact tX7_longestLeg_l9 C hk0 5000 (-1 : Int32) (0 : Int32) M1 hf _ _ _ hI (lv_sub hl [2, 1, 0] rfl)
theorem cv_X7_longestLeg : cvF RX7 yX7_longestLeg cX7_longestLeg 3 (some .int) 0 := ⟨q_t8_144, q_t8_145, q_t1_11, q_t8_146, by decide +kernel⟩
def mX7_acrossOf (x0 : Int32) (M : Mem) : Option Int32 := ite2 (x0 = (1 : Int32)) (some (1 : Int32)) (ite2 (x0 = (3 : Int32)) (some (-1 : Int32)) (some (0 : Int32)))
set_option maxHeartbeats 4000000 in
set_option maxRecDepth 100000 in
theorem tX7_acrossOf (l : Launch) {G : GT} {kd : Nat → Nat × Nat} {ad : Nat → Nat}  {x0 : Int32} {M : Mem} {vo : Int32} (hf : mX7_acrossOf  x0 M = some vo) (n : Nat) : Met l yX7_acrossOf (Cond.code yX7_acrossOf cX7_acrossOf 1 (some .int) :: WA) (rmO 0 0 0) (Pg G kd ad n [.int x0] M) (Qg G kd ad n M (some (.int vo))) 0 0 (AS kd ad n) := by
  refine g_body (own := RX7) (by decide) rfl ?_ (Nat.le_of_ble_eq_true rfl)
  intro p e s m args below meth c C _ H locs ls hI hl
  obtain ⟨hx, hb, hml, hr, hown, hts, hlk, hK, hap, hsx⟩ := id C
  have hl : lv_has ls 1 [(0, .int x0)] := hl
  unfold mX7_acrossOf at hf
  refine lv_iload_n hx hb (dc tbX7_acrossOf_k 0 rfl) rfl (lv_at hl 0 rfl) ?_
  refine by_c (c := x0 = (1 : Int32)) (fun c1 => ?_) (fun c1 => ?_)
  · have hf := ite_t c1 hf
    refine lv_et c1 ?_
    refine lv_lookup (tgt := 28) hx hb dX7_acrossOf_1 (by decide) rfl rfl ?_
    refine lv_iconst (v := 1) hx hb (dc tbX7_acrossOf_k 1 rfl) ic_1 ?_
    cases hf
    exact g_iret hx hb hr hlk hI (dc tbX7_acrossOf_k 2 rfl)
  · have hf := ite_f c1 hf
    refine by_c (c := x0 = (3 : Int32)) (fun c2 => ?_) (fun c2 => ?_)
    · have hf := ite_t c2 hf
      refine lv_et c2 ?_
      refine lv_lookup (tgt := 30) hx hb dX7_acrossOf_1 (by decide) rfl rfl ?_
      refine lv_iconst (v := -1) hx hb (dc tbX7_acrossOf_k 3 rfl) ic_m1 ?_
      cases hf
      exact g_iret hx hb hr hlk hI (dc tbX7_acrossOf_k 4 rfl)
    · have hf := ite_f c2 hf
      refine lv_lookup (off := 31) (tgt := 32) hx hb dX7_acrossOf_1 (by decide) (by show Op.lookupswitch.offset [(1, 27), (3, 29)] 31 _ = _; rw [lv_osw (a := 1) c1 rfl, lv_osw (a := 3) c2 rfl]; rfl) rfl ?_
      refine lv_iconst (v := 0) hx hb (dc tbX7_acrossOf_k 5 rfl) ic_0 ?_
      cases hf
      exact g_iret hx hb hr hlk hI (dc tbX7_acrossOf_k 6 rfl)
theorem cs_X7_acrossOf : csF yX7_acrossOf cX7_acrossOf 1 (some .int) 1 := ⟨q_t8_160, q_t1_11, q_t8_161, by decide +kernel⟩
def mX7_upOf (x0 : Int32) (M : Mem) : Option Int32 := ite2 (x0 = (0 : Int32)) (some (1 : Int32)) (ite2 (x0 = (2 : Int32)) (some (-1 : Int32)) (some (0 : Int32)))
set_option maxHeartbeats 4000000 in
set_option maxRecDepth 100000 in
theorem tX7_upOf (l : Launch) {G : GT} {kd : Nat → Nat × Nat} {ad : Nat → Nat}  {x0 : Int32} {M : Mem} {vo : Int32} (hf : mX7_upOf  x0 M = some vo) (n : Nat) : Met l yX7_upOf (Cond.code yX7_upOf cX7_upOf 1 (some .int) :: WA) (rmO 0 0 0) (Pg G kd ad n [.int x0] M) (Qg G kd ad n M (some (.int vo))) 0 0 (AS kd ad n) := by
  refine g_body (own := RX7) (by decide) rfl ?_ (Nat.le_of_ble_eq_true rfl)
  intro p e s m args below meth c C _ H locs ls hI hl
  obtain ⟨hx, hb, hml, hr, hown, hts, hlk, hK, hap, hsx⟩ := id C
  have hl : lv_has ls 1 [(0, .int x0)] := hl
  unfold mX7_upOf at hf
  refine lv_iload_n hx hb (dc tbX7_upOf_k 0 rfl) rfl (lv_at hl 0 rfl) ?_
  refine by_c (c := x0 = (0 : Int32)) (fun c1 => ?_) (fun c1 => ?_)
  · have hf := ite_t c1 hf
    refine lv_et c1 ?_
    refine lv_lookup (tgt := 28) hx hb dX7_upOf_1 (by decide) rfl rfl ?_
    refine lv_iconst (v := 1) hx hb (dc tbX7_upOf_k 1 rfl) ic_1 ?_
    cases hf
    exact g_iret hx hb hr hlk hI (dc tbX7_upOf_k 2 rfl)
  · have hf := ite_f c1 hf
    refine by_c (c := x0 = (2 : Int32)) (fun c2 => ?_) (fun c2 => ?_)
    · have hf := ite_t c2 hf
      refine lv_et c2 ?_
      refine lv_lookup (tgt := 30) hx hb dX7_upOf_1 (by decide) rfl rfl ?_
      refine lv_iconst (v := -1) hx hb (dc tbX7_upOf_k 3 rfl) ic_m1 ?_
      cases hf
      exact g_iret hx hb hr hlk hI (dc tbX7_upOf_k 4 rfl)
    · have hf := ite_f c2 hf
      refine lv_lookup (off := 31) (tgt := 32) hx hb dX7_upOf_1 (by decide) (by show Op.lookupswitch.offset [(0, 27), (2, 29)] 31 _ = _; rw [lv_osw (a := 0) c1 rfl, lv_osw (a := 2) c2 rfl]; rfl) rfl ?_
      refine lv_iconst (v := 0) hx hb (dc tbX7_upOf_k 5 rfl) ic_0 ?_
      cases hf
      exact g_iret hx hb hr hlk hI (dc tbX7_upOf_k 6 rfl)
theorem cs_X7_upOf : csF yX7_upOf cX7_upOf 1 (some .int) 1 := ⟨q_t8_163, q_t1_11, q_t8_164, by decide +kernel⟩
def mX7_layLeg (k0 : Nat) (x1 : Int32) (x2 : Int32) (M : Mem) : Option (Mem × Unit) := chk (okb x1 9) (bnd (wr M (k0 + 6) (x1).toNatClampNeg (rd M k0 21)) (fun M3 => chk (okb x1 9) (bnd (wr M3 (k0 + 7) (x1).toNatClampNeg (rd M3 k0 22)) (fun M6 => cap (mX7_acrossOf x2 M6) (fun r8 => chk (okb ((2 : Int32) + x1) 86) (bnd (wr M6 k0 21 ((rd M6 k0 21) + (r8 * (rd M6 (k0 + 1) (((2 : Int32) + x1)).toNatClampNeg)))) (fun M11 => cap (mX7_upOf x2 M11) (fun r14 => chk (okb ((2 : Int32) + x1) 86) (bnd (wr M11 k0 22 ((rd M11 k0 22) + (r14 * (rd M11 (k0 + 1) (((2 : Int32) + x1)).toNatClampNeg)))) (fun M17 => chk (okb x1 9) (bnd (wr M17 (k0 + 8) (x1).toNatClampNeg (rd M17 k0 21)) (fun M21 => chk (okb x1 9) (bnd (wr M21 (k0 + 9) (x1).toNatClampNeg (rd M21 k0 22)) (fun M24 => some (M24, ())))))))))))))))
set_option maxHeartbeats 4000000 in
set_option maxRecDepth 100000 in
theorem tX7_layLeg (l : Launch) {G : GT} {kd : Nat → Nat × Nat} {ad : Nat → Nat} {k0 : Nat} (hk0 : kModel kd k0) {x1 : Int32} {x2 : Int32} {M : Mem} {MO : Mem} {vo : Unit} (hf : mX7_layLeg k0 x1 x2 M = some (MO, vo)) (n : Nat) : Met l yX7_layLeg (Cond.code yX7_layLeg cX7_layLeg 3 none :: WA) (rmO 1 0 0) (Pg G kd ad n [.ref (ad k0), .int x1, .int x2] M) (Qg G kd ad n MO none) 0 0 (AS kd ad n) := by
  refine g_body (own := RX7) (by decide) rfl ?_ (Nat.le_of_ble_eq_true rfl)
  intro p e s m args below meth c C _ H locs ls hI hl
  obtain ⟨hx, hb, hml, hr, hown, hts, hlk, hK, hap, hsx⟩ := id C
  have hl : lv_has ls 3 [(0, .ref (ad k0)), (1, .int x1), (2, .int x2)] := hl
  unfold mX7_layLeg at hf
  refine lv_aload_n hx hb (dc tbX7_layLeg_0_k 0 rfl) rfl (lv_at hl 0 rfl) ?_
  refine gg7_17 hx hb hts hown hK hI hk0.1 q_t7_93 (dc tbX7_layLeg_0_k 1 rfl) ?_
  refine lv_iload_n hx hb (dc tbX7_layLeg_0_k 2 rfl) rfl (lv_at hl 1 rfl) ?_
  refine lv_aload_n hx hb (dc tbX7_layLeg_0_k 3 rfl) rfl (lv_at hl 0 rfl) ?_
  refine gg7_21 hx hb hts hown hK hI hk0.1 q_t7_97 (dc tbX7_layLeg_0_k 4 rfl) ?_
  obtain ⟨h1, hf⟩ := chk_s hf
  obtain ⟨M3, e2, hf⟩ := bnd_s hf
  refine g_iast hx hb hK hap hI hk0.2.2.2.2.2.2.1 (okb_in h1) (dc tbX7_layLeg_0_k 5 rfl) e2 (fun H locs hI => ?_)
  refine lv_aload_n hx hb (dc tbX7_layLeg_0_k 6 rfl) rfl (lv_at hl 0 rfl) ?_
  refine gg7_18 hx hb hts hown hK hI hk0.1 q_t7_94 (dc tbX7_layLeg_0_k 7 rfl) ?_
  refine lv_iload_n hx hb (dc tbX7_layLeg_0_k 8 rfl) rfl (lv_at hl 1 rfl) ?_
  refine lv_aload_n hx hb (dc tbX7_layLeg_0_k 9 rfl) rfl (lv_at hl 0 rfl) ?_
  refine gg7_22 hx hb hts hown hK hI hk0.1 q_t7_98 (dc tbX7_layLeg_0_k 10 rfl) ?_
  obtain ⟨h4, hf⟩ := chk_s hf
  obtain ⟨M6, e5, hf⟩ := bnd_s hf
  refine g_iast hx hb hK hap hI hk0.2.2.2.2.2.2.2.1 (okb_in h4) (dc tbX7_layLeg_0_k 11 rfl) e5 (fun H locs hI => ?_)
  refine lv_aload_n hx hb (dc tbX7_layLeg_0_k 12 rfl) rfl (lv_at hl 0 rfl) ?_
  refine lv_dup hx hb (dc tbX7_layLeg_0_k 13 rfl) rfl ?_
  refine gg7_21 hx hb hts hown hK hI hk0.1 q_t7_97 (dc tbX7_layLeg_0_k 14 rfl) ?_
  refine lv_iload_n hx hb (dc tbX7_layLeg_0_k 15 rfl) rfl (lv_at hl 2 rfl) ?_
  obtain ⟨r8, q7, hf⟩ := cap_s hf
  refine g_callSi hx hb hml hown hts hK hap hsx hI (tX7_acrossOf l  q7 H.size) cs_X7_acrossOf q_t8_159 rfl rfl ⟨Nat.le_of_ble_eq_true rfl, Nat.le_of_ble_eq_true rfl⟩ rfl hl.1 rfl (Nat.le_of_ble_eq_true rfl) (dc tbX7_layLeg_0_k 16 rfl) ⟨Nat.le_of_ble_eq_true rfl, Nat.le_of_ble_eq_true rfl⟩ (fun H locs hI => ?_)
  refine lv_aload_n hx hb (dc tbX7_layLeg_0_k 17 rfl) rfl (lv_at hl 0 rfl) ?_
  refine gg7_0 hx hb hts hown hK hI hk0.1 q_t7_76 (dc tbX7_layLeg_0_k 18 rfl) ?_
  refine lv_iconst (v := 2) hx hb (dc tbX7_layLeg_0_k 19 rfl) ic_2 ?_
  refine lv_iload_n hx hb (dc tbX7_layLeg_0_k 20 rfl) rfl (lv_at hl 1 rfl) ?_
  refine lv_iadd hx hb (dc tbX7_layLeg_0_k 21 rfl) ?_
  obtain ⟨h10, hf⟩ := chk_s hf
  refine g_iald hx hb hK hI hk0.2.1 (okb_in h10) (dc tbX7_layLeg_0_k 22 rfl) ?_
  refine lv_imul hx hb (dc tbX7_layLeg_0_k 23 rfl) ?_
  refine lv_iadd hx hb (dc tbX7_layLeg_0_k 24 rfl) ?_
  obtain ⟨M11, e12, hf⟩ := bnd_s hf
  refine gp7_21 hx hb hts hown hK hap hI hk0.1 q_t7_97 (dc tbX7_layLeg_0_k 25 rfl) e12 (fun H locs hI => ?_)
  refine lv_aload_n hx hb (dc tbX7_layLeg_0_k 26 rfl) rfl (lv_at hl 0 rfl) ?_
  refine lv_dup hx hb (dc tbX7_layLeg_0_k 27 rfl) rfl ?_
  refine gg7_22 hx hb hts hown hK hI hk0.1 q_t7_98 (dc tbX7_layLeg_0_k 28 rfl) ?_
  refine lv_iload_n hx hb (dc tbX7_layLeg_0_k 29 rfl) rfl (lv_at hl 2 rfl) ?_
  obtain ⟨r14, q13, hf⟩ := cap_s hf
  refine g_callSi hx hb hml hown hts hK hap hsx hI (tX7_upOf l  q13 H.size) cs_X7_upOf q_t8_162 rfl rfl ⟨Nat.le_of_ble_eq_true rfl, Nat.le_of_ble_eq_true rfl⟩ rfl hl.1 rfl (Nat.le_of_ble_eq_true rfl) (dc tbX7_layLeg_0_k 30 rfl) ⟨Nat.le_of_ble_eq_true rfl, Nat.le_of_ble_eq_true rfl⟩ (fun H locs hI => ?_)
  refine lv_aload_n hx hb (dc tbX7_layLeg_0_k 31 rfl) rfl (lv_at hl 0 rfl) ?_
  refine gg7_0 hx hb hts hown hK hI hk0.1 q_t7_76 (dc tbX7_layLeg_0_k 32 rfl) ?_
  refine lv_iconst (v := 2) hx hb (dc tbX7_layLeg_0_k 33 rfl) ic_2 ?_
  refine lv_iload_n hx hb (dc tbX7_layLeg_0_k 34 rfl) rfl (lv_at hl 1 rfl) ?_
  refine lv_iadd hx hb (dc tbX7_layLeg_0_k 35 rfl) ?_
  obtain ⟨h16, hf⟩ := chk_s hf
  refine g_iald hx hb hK hI hk0.2.1 (okb_in h16) (dc tbX7_layLeg_0_k 36 rfl) ?_
  refine lv_imul hx hb (dc tbX7_layLeg_0_k 37 rfl) ?_
  refine lv_iadd hx hb (dc tbX7_layLeg_0_k 38 rfl) ?_
  obtain ⟨M17, e18, hf⟩ := bnd_s hf
  refine gp7_22 hx hb hts hown hK hap hI hk0.1 q_t7_98 (dc tbX7_layLeg_0_k 39 rfl) e18 (fun H locs hI => ?_)
  refine lv_aload_n hx hb (dc tbX7_layLeg_1_k 0 rfl) rfl (lv_at hl 0 rfl) ?_
  refine gg7_19 hx hb hts hown hK hI hk0.1 q_t7_95 (dc tbX7_layLeg_1_k 1 rfl) ?_
  refine lv_iload_n hx hb (dc tbX7_layLeg_1_k 2 rfl) rfl (lv_at hl 1 rfl) ?_
  refine lv_aload_n hx hb (dc tbX7_layLeg_1_k 3 rfl) rfl (lv_at hl 0 rfl) ?_
  refine gg7_21 hx hb hts hown hK hI hk0.1 q_t7_97 (dc tbX7_layLeg_1_k 4 rfl) ?_
  obtain ⟨h19, hf⟩ := chk_s hf
  obtain ⟨M21, e20, hf⟩ := bnd_s hf
  refine g_iast hx hb hK hap hI hk0.2.2.2.2.2.2.2.2.1 (okb_in h19) (dc tbX7_layLeg_1_k 5 rfl) e20 (fun H locs hI => ?_)
  refine lv_aload_n hx hb (dc tbX7_layLeg_1_k 6 rfl) rfl (lv_at hl 0 rfl) ?_
  refine gg7_20 hx hb hts hown hK hI hk0.1 q_t7_96 (dc tbX7_layLeg_1_k 7 rfl) ?_
  refine lv_iload_n hx hb (dc tbX7_layLeg_1_k 8 rfl) rfl (lv_at hl 1 rfl) ?_
  refine lv_aload_n hx hb (dc tbX7_layLeg_1_k 9 rfl) rfl (lv_at hl 0 rfl) ?_
  refine gg7_22 hx hb hts hown hK hI hk0.1 q_t7_98 (dc tbX7_layLeg_1_k 10 rfl) ?_
  obtain ⟨h22, hf⟩ := chk_s hf
  obtain ⟨M24, e23, hf⟩ := bnd_s hf
  refine g_iast hx hb hK hap hI hk0.2.2.2.2.2.2.2.2.2.1 (okb_in h22) (dc tbX7_layLeg_1_k 11 rfl) e23 (fun H locs hI => ?_)
  cases hf
  exact g_vret hx hb hr hlk hI (dc tbX7_layLeg_1_k 12 rfl)
theorem cv_X7_layLeg : cvF RX7 yX7_layLeg cX7_layLeg 3 none 2 := ⟨q_t8_157, q_s5_0, q_t1_11, q_t8_158, by decide +kernel⟩
def mX7_isClamped (k0 : Nat) (x1 : Int32) (x2 : Int32) (x3 : Int32) (M : Mem) : Option Int32 := ite2 (x3 = 0) (ite2 (x2 < x1) (some (0 : Int32)) (some (1 : Int32))) (ite2 (x1 ≤ x2) (some (0 : Int32)) (some (1 : Int32)))
set_option maxHeartbeats 4000000 in
set_option maxRecDepth 100000 in
theorem tX7_isClamped (l : Launch) {G : GT} {kd : Nat → Nat × Nat} {ad : Nat → Nat} {k0 : Nat} (hk0 : kModel kd k0) {x1 : Int32} {x2 : Int32} {x3 : Int32} {M : Mem} {vo : Int32} (hf : mX7_isClamped k0 x1 x2 x3 M = some vo) (n : Nat) : Met l yX7_isClamped (Cond.code yX7_isClamped cX7_isClamped 4 (some .boolean) :: WA) (rmO 0 0 0) (Pg G kd ad n [.ref (ad k0), .int x1, .int x2, .int x3] M) (Qg G kd ad n M (some (.int vo))) 0 0 (AS kd ad n) := by
  refine g_body (own := RX7) (by decide) rfl ?_ (Nat.le_of_ble_eq_true rfl)
  intro p e s m args below meth c C _ H locs ls hI hl
  obtain ⟨hx, hb, hml, hr, hown, hts, hlk, hK, hap, hsx⟩ := id C
  have hl : lv_has ls 4 [(0, .ref (ad k0)), (1, .int x1), (2, .int x2), (3, .int x3)] := hl
  unfold mX7_isClamped at hf
  refine lv_iload_n hx hb (dc tbX7_isClamped_k 0 rfl) rfl (lv_at hl 3 rfl) ?_
  refine lv_if_ne (tgt := 17) hx hb (dc tbX7_isClamped_k 1 rfl) rfl (fun c1 => ?_) (fun c1 => ?_)
  · have hf := ite_f c1 hf
    refine lv_iload_n hx hb (dc tbX7_isClamped_k 9 rfl) rfl (lv_at hl 1 rfl) ?_
    refine lv_iload_n hx hb (dc tbX7_isClamped_k 10 rfl) rfl (lv_at hl 2 rfl) ?_
    refine lv_icmp_le (tgt := 26) hx hb (dc tbX7_isClamped_k 11 rfl) rfl (fun c2 => ?_) (fun c2 => ?_)
    · have hf := ite_t c2 hf
      refine lv_iconst (v := 0) hx hb (dc tbX7_isClamped_k 14 rfl) ic_0 ?_
      cases hf
      exact g_zret hx hb hr hlk hI rfl (dc tbX7_isClamped_k 15 rfl)
    · have hf := ite_f c2 hf
      refine lv_iconst (v := 1) hx hb (dc tbX7_isClamped_k 12 rfl) ic_1 ?_
      refine lv_goto (tgt := 27) hx hb (dc tbX7_isClamped_k 13 rfl) rfl ?_
      cases hf
      exact g_zret hx hb hr hlk hI rfl (dc tbX7_isClamped_k 15 rfl)
  · have hf := ite_t c1 hf
    refine lv_iload_n hx hb (dc tbX7_isClamped_k 2 rfl) rfl (lv_at hl 1 rfl) ?_
    refine lv_iload_n hx hb (dc tbX7_isClamped_k 3 rfl) rfl (lv_at hl 2 rfl) ?_
    refine lv_icmp_gt (tgt := 13) hx hb (dc tbX7_isClamped_k 4 rfl) rfl (fun c3 => ?_) (fun c3 => ?_)
    · have hf := ite_t c3 hf
      refine lv_iconst (v := 0) hx hb (dc tbX7_isClamped_k 7 rfl) ic_0 ?_
      refine lv_goto (tgt := 27) hx hb (dc tbX7_isClamped_k 8 rfl) rfl ?_
      cases hf
      exact g_zret hx hb hr hlk hI rfl (dc tbX7_isClamped_k 15 rfl)
    · have hf := ite_f c3 hf
      refine lv_iconst (v := 1) hx hb (dc tbX7_isClamped_k 5 rfl) ic_1 ?_
      refine lv_goto (tgt := 27) hx hb (dc tbX7_isClamped_k 6 rfl) rfl ?_
      cases hf
      exact g_zret hx hb hr hlk hI rfl (dc tbX7_isClamped_k 15 rfl)
theorem cv_X7_isClamped : cvF RX7 yX7_isClamped cX7_isClamped 4 (some .boolean) 3 := ⟨q_t9_15, q_s5_12, q_t1_11, q_t9_16, by decide +kernel⟩
def mX7_laySide_b136 (k0 : Nat) (ih16 : Int32 → Int32 → Int32 → Int32 → Int32 → Int32 → Mem → Option (Mem × Unit)) (x2 : Int32) (x4 : Int32) (x5 : Int32) (x6 : Int32) (x7 : Int32) (x8 : Int32) (M : Mem) : Option (Mem × Unit) := bnd ((x8 + x2)) (fun x8_140 => ih16 x2 x4 x5 x6 x7 x8_140 M)
set_option maxHeartbeats 4000000 in
set_option maxRecDepth 100000 in
theorem tX7_laySide_b136 {p : Program} {l : Launch} {e : Env} {s : State} {m : MethodId} {args : Array Value} {below : List Frame} {meth : Method} {c : Code} {G : GT} {kd : Nat → Nat × Nat} {ad : Nat → Nat} (C : Cx p s m args meth c cX7_laySide 11 none RX7 G kd ad) {k0 : Nat} (hk0 : kModel kd k0) {MO : Mem} {vo : Unit} {ih16 : Int32 → Int32 → Int32 → Int32 → Int32 → Int32 → Mem → Option (Mem × Unit)} (hih16 : ∀ (x2 : Int32) (x4 : Int32) (x5 : Int32) (x6 : Int32) (x7 : Int32) (x8 : Int32) (M : Mem), ih16 x2 x4 x5 x6 x7 x8 M = some (MO, vo) → At p l e (rmO 2 0 0) s m args below meth c 0 0 (MQ below (Qg G kd ad s.heap.size MO none) args s 0 0 (AS kd ad s.heap.size)) G kd ad 11 16 [(0, .ref (ad k0)), (2, .int x2), (4, .int x4), (5, .int x5), (6, .int x6), (7, .int x7), (8, .int x8)] [] M) : ∀ (x2 : Int32) (x4 : Int32) (x5 : Int32) (x6 : Int32) (x7 : Int32) (x8 : Int32) (M : Mem), mX7_laySide_b136 k0 ih16 x2 x4 x5 x6 x7 x8 M = some (MO, vo) → At p l e (rmO 2 0 0) s m args below meth c 0 0 (MQ below (Qg G kd ad s.heap.size MO none) args s 0 0 (AS kd ad s.heap.size)) G kd ad 11 136 [(0, .ref (ad k0)), (2, .int x2), (4, .int x4), (5, .int x5), (6, .int x6), (7, .int x7), (8, .int x8)] [] M := by
  intro x2 x4 x5 x6 x7 x8 M hf H locs ls hI hl
  obtain ⟨hx, hb, hml, hr, hown, hts, hlk, hK, hap, hsx⟩ := id C
  unfold mX7_laySide_b136 at hf
  refine lv_iload hx hb (dc tbX7_laySide_1_k 35 rfl) (lv_at hl 6 rfl) ?_
  refine lv_iload_n hx hb (dc tbX7_laySide_1_k 36 rfl) rfl (lv_at hl 1 rfl) ?_
  refine lv_iadd hx hb (dc tbX7_laySide_1_k 37 rfl) ?_
  obtain ⟨x8_140, e17, hf⟩ := bnd_s hf
  refine lv_ei e17 ?_
  refine lv_istore (lv' := [(8, .int x8_140), (0, .ref (ad k0)), (2, .int x2), (4, .int x4), (5, .int x5), (6, .int x6), (7, .int x7)]) hx hb (dc tbX7_laySide_1_k 38 rfl) hl (by decide) rfl (fun ls hl => ?_)
  refine lv_goto (tgt := 16) hx hb (dc tbX7_laySide_1_k 39 rfl) rfl ?_
  exact hih16 x2 x4 x5 x6 x7 x8_140 M hf _ _ _ hI (lv_sub hl [1, 2, 3, 4, 5, 6, 0] rfl)
def mX7_laySide_b131 (k0 : Nat) (ih16 : Int32 → Int32 → Int32 → Int32 → Int32 → Int32 → Mem → Option (Mem × Unit)) (x2 : Int32) (x4 : Int32) (x5 : Int32) (x6 : Int32) (x8 : Int32) (y0 : Int32) (y1 : Int32) (M : Mem) : Option (Mem × Unit) := bnd (((y0 + y1) - (y0 + y1) / (4 : Int32) * (4 : Int32))) (fun x7_134 => mX7_laySide_b136 k0 ih16 x2 x4 x5 x6 x7_134 x8 M)
set_option maxHeartbeats 4000000 in
set_option maxRecDepth 100000 in
theorem tX7_laySide_b131 {p : Program} {l : Launch} {e : Env} {s : State} {m : MethodId} {args : Array Value} {below : List Frame} {meth : Method} {c : Code} {G : GT} {kd : Nat → Nat × Nat} {ad : Nat → Nat} (C : Cx p s m args meth c cX7_laySide 11 none RX7 G kd ad) {k0 : Nat} (hk0 : kModel kd k0) {MO : Mem} {vo : Unit} {ih16 : Int32 → Int32 → Int32 → Int32 → Int32 → Int32 → Mem → Option (Mem × Unit)} (hih16 : ∀ (x2 : Int32) (x4 : Int32) (x5 : Int32) (x6 : Int32) (x7 : Int32) (x8 : Int32) (M : Mem), ih16 x2 x4 x5 x6 x7 x8 M = some (MO, vo) → At p l e (rmO 2 0 0) s m args below meth c 0 0 (MQ below (Qg G kd ad s.heap.size MO none) args s 0 0 (AS kd ad s.heap.size)) G kd ad 11 16 [(0, .ref (ad k0)), (2, .int x2), (4, .int x4), (5, .int x5), (6, .int x6), (7, .int x7), (8, .int x8)] [] M) : ∀ (x2 : Int32) (x4 : Int32) (x5 : Int32) (x6 : Int32) (x8 : Int32) (y0 : Int32) (y1 : Int32) (M : Mem), mX7_laySide_b131 k0 ih16 x2 x4 x5 x6 x8 y0 y1 M = some (MO, vo) → At p l e (rmO 2 0 0) s m args below meth c 0 0 (MQ below (Qg G kd ad s.heap.size MO none) args s 0 0 (AS kd ad s.heap.size)) G kd ad 11 131 [(0, .ref (ad k0)), (2, .int x2), (4, .int x4), (5, .int x5), (6, .int x6), (8, .int x8)] [.int y1, .int y0] M := by
  intro x2 x4 x5 x6 x8 y0 y1 M hf H locs ls hI hl
  obtain ⟨hx, hb, hml, hr, hown, hts, hlk, hK, hap, hsx⟩ := id C
  unfold mX7_laySide_b131 at hf
  refine lv_iadd hx hb (dc tbX7_laySide_1_k 31 rfl) ?_
  refine lv_iconst (v := 4) hx hb (dc tbX7_laySide_1_k 32 rfl) ic_4 ?_
  refine lv_irem hx hb (dc tbX7_laySide_1_k 33 rfl) (by decide) ?_
  obtain ⟨x7_134, e26, hf⟩ := bnd_s hf
  refine lv_ei e26 ?_
  refine lv_istore (lv' := [(7, .int x7_134), (0, .ref (ad k0)), (2, .int x2), (4, .int x4), (5, .int x5), (6, .int x6), (8, .int x8)]) hx hb (dc tbX7_laySide_1_k 34 rfl) hl (by decide) rfl (fun ls hl => ?_)
  exact tX7_laySide_b136 C hk0 hih16 x2 x4 x5 x6 x7_134 x8 M hf _ _ _ hI (lv_sub hl [1, 2, 3, 4, 5, 0, 6] rfl)
def mX7_laySide_b113 (k0 : Nat) (ih16 : Int32 → Int32 → Int32 → Int32 → Int32 → Int32 → Mem → Option (Mem × Unit)) (x2 : Int32) (x4 : Int32) (x5 : Int32) (x6 : Int32) (x7 : Int32) (x8 : Int32) (y0 : Int32) (M : Mem) : Option (Mem × Unit) := ite2 (y0 = 0) (mX7_laySide_b131 k0 ih16 x2 x4 x5 x6 x8 x7 ((4 : Int32) - x4) M) (mX7_laySide_b131 k0 ih16 x2 x4 x5 x6 x8 x7 x4 M)
set_option maxHeartbeats 4000000 in
set_option maxRecDepth 100000 in
theorem tX7_laySide_b113 {p : Program} {l : Launch} {e : Env} {s : State} {m : MethodId} {args : Array Value} {below : List Frame} {meth : Method} {c : Code} {G : GT} {kd : Nat → Nat × Nat} {ad : Nat → Nat} (C : Cx p s m args meth c cX7_laySide 11 none RX7 G kd ad) {k0 : Nat} (hk0 : kModel kd k0) {MO : Mem} {vo : Unit} {ih16 : Int32 → Int32 → Int32 → Int32 → Int32 → Int32 → Mem → Option (Mem × Unit)} (hih16 : ∀ (x2 : Int32) (x4 : Int32) (x5 : Int32) (x6 : Int32) (x7 : Int32) (x8 : Int32) (M : Mem), ih16 x2 x4 x5 x6 x7 x8 M = some (MO, vo) → At p l e (rmO 2 0 0) s m args below meth c 0 0 (MQ below (Qg G kd ad s.heap.size MO none) args s 0 0 (AS kd ad s.heap.size)) G kd ad 11 16 [(0, .ref (ad k0)), (2, .int x2), (4, .int x4), (5, .int x5), (6, .int x6), (7, .int x7), (8, .int x8)] [] M) : ∀ (x2 : Int32) (x4 : Int32) (x5 : Int32) (x6 : Int32) (x7 : Int32) (x8 : Int32) (y0 : Int32) (M : Mem), mX7_laySide_b113 k0 ih16 x2 x4 x5 x6 x7 x8 y0 M = some (MO, vo) → At p l e (rmO 2 0 0) s m args below meth c 0 0 (MQ below (Qg G kd ad s.heap.size MO none) args s 0 0 (AS kd ad s.heap.size)) G kd ad 11 113 [(0, .ref (ad k0)), (2, .int x2), (4, .int x4), (5, .int x5), (6, .int x6), (7, .int x7), (8, .int x8)] [.int y0] M := by
  intro x2 x4 x5 x6 x7 x8 y0 M hf H locs ls hI hl
  obtain ⟨hx, hb, hml, hr, hown, hts, hlk, hK, hap, hsx⟩ := id C
  unfold mX7_laySide_b113 at hf
  refine lv_istore (lv' := [(10, .int y0), (0, .ref (ad k0)), (2, .int x2), (4, .int x4), (5, .int x5), (6, .int x6), (7, .int x7), (8, .int x8)]) hx hb (dc tbX7_laySide_1_k 22 rfl) hl (by decide) rfl (fun ls hl => ?_)
  refine lv_iload hx hb (dc tbX7_laySide_1_k 23 rfl) (lv_at hl 6 rfl) ?_
  refine lv_iload hx hb (dc tbX7_laySide_1_k 24 rfl) (lv_at hl 0 rfl) ?_
  refine lv_if_eq (tgt := 127) hx hb (dc tbX7_laySide_1_k 25 rfl) rfl (fun c25 => ?_) (fun c25 => ?_)
  · have hf := ite_t c25 hf
    refine lv_iconst (v := 4) hx hb (dc tbX7_laySide_1_k 28 rfl) ic_4 ?_
    refine lv_iload hx hb (dc tbX7_laySide_1_k 29 rfl) (lv_at hl 3 rfl) ?_
    refine lv_isub hx hb (dc tbX7_laySide_1_k 30 rfl) ?_
    exact tX7_laySide_b131 C hk0 hih16 x2 x4 x5 x6 x8 x7 ((4 : Int32) - x4) M hf _ _ _ hI (lv_sub hl [1, 2, 3, 4, 5, 7] rfl)
  · have hf := ite_f c25 hf
    refine lv_iload hx hb (dc tbX7_laySide_1_k 26 rfl) (lv_at hl 3 rfl) ?_
    refine lv_goto (tgt := 131) hx hb (dc tbX7_laySide_1_k 27 rfl) rfl ?_
    exact tX7_laySide_b131 C hk0 hih16 x2 x4 x5 x6 x8 x7 x4 M hf _ _ _ hI (lv_sub hl [1, 2, 3, 4, 5, 7] rfl)
def mX7_laySide_b103 (k0 : Nat) (ih16 : Int32 → Int32 → Int32 → Int32 → Int32 → Int32 → Mem → Option (Mem × Unit)) (x2 : Int32) (x4 : Int32) (x5 : Int32) (x6 : Int32) (x7 : Int32) (x8 : Int32) (y0 : Int32) (M : Mem) : Option (Mem × Unit) := ite2 (y0 = x5) (mX7_laySide_b113 k0 ih16 x2 x4 x5 x6 x7 x8 (0 : Int32) M) (mX7_laySide_b113 k0 ih16 x2 x4 x5 x6 x7 x8 (1 : Int32) M)
set_option maxHeartbeats 4000000 in
set_option maxRecDepth 100000 in
theorem tX7_laySide_b103 {p : Program} {l : Launch} {e : Env} {s : State} {m : MethodId} {args : Array Value} {below : List Frame} {meth : Method} {c : Code} {G : GT} {kd : Nat → Nat × Nat} {ad : Nat → Nat} (C : Cx p s m args meth c cX7_laySide 11 none RX7 G kd ad) {k0 : Nat} (hk0 : kModel kd k0) {MO : Mem} {vo : Unit} {ih16 : Int32 → Int32 → Int32 → Int32 → Int32 → Int32 → Mem → Option (Mem × Unit)} (hih16 : ∀ (x2 : Int32) (x4 : Int32) (x5 : Int32) (x6 : Int32) (x7 : Int32) (x8 : Int32) (M : Mem), ih16 x2 x4 x5 x6 x7 x8 M = some (MO, vo) → At p l e (rmO 2 0 0) s m args below meth c 0 0 (MQ below (Qg G kd ad s.heap.size MO none) args s 0 0 (AS kd ad s.heap.size)) G kd ad 11 16 [(0, .ref (ad k0)), (2, .int x2), (4, .int x4), (5, .int x5), (6, .int x6), (7, .int x7), (8, .int x8)] [] M) : ∀ (x2 : Int32) (x4 : Int32) (x5 : Int32) (x6 : Int32) (x7 : Int32) (x8 : Int32) (y0 : Int32) (M : Mem), mX7_laySide_b103 k0 ih16 x2 x4 x5 x6 x7 x8 y0 M = some (MO, vo) → At p l e (rmO 2 0 0) s m args below meth c 0 0 (MQ below (Qg G kd ad s.heap.size MO none) args s 0 0 (AS kd ad s.heap.size)) G kd ad 11 103 [(0, .ref (ad k0)), (2, .int x2), (4, .int x4), (5, .int x5), (6, .int x6), (7, .int x7), (8, .int x8)] [.int y0] M := by
  intro x2 x4 x5 x6 x7 x8 y0 M hf H locs ls hI hl
  obtain ⟨hx, hb, hml, hr, hown, hts, hlk, hK, hap, hsx⟩ := id C
  unfold mX7_laySide_b103 at hf
  refine lv_iload hx hb (dc tbX7_laySide_1_k 17 rfl) (lv_at hl 3 rfl) ?_
  refine lv_icmp_eq (tgt := 112) hx hb (dc tbX7_laySide_1_k 18 rfl) rfl (fun c24 => ?_) (fun c24 => ?_)
  · have hf := ite_t c24 hf
    refine lv_iconst (v := 0) hx hb (dc tbX7_laySide_1_k 21 rfl) ic_0 ?_
    exact tX7_laySide_b113 C hk0 hih16 x2 x4 x5 x6 x7 x8 (0 : Int32) M hf _ _ _ hI (lv_sub hl [0, 1, 2, 3, 4, 5, 6] rfl)
  · have hf := ite_f c24 hf
    refine lv_iconst (v := 1) hx hb (dc tbX7_laySide_1_k 19 rfl) ic_1 ?_
    refine lv_goto (tgt := 113) hx hb (dc tbX7_laySide_1_k 20 rfl) rfl ?_
    exact tX7_laySide_b113 C hk0 hih16 x2 x4 x5 x6 x7 x8 (1 : Int32) M hf _ _ _ hI (lv_sub hl [0, 1, 2, 3, 4, 5, 6] rfl)
def mX7_laySide_b53 (k0 : Nat) (ih16 : Int32 → Int32 → Int32 → Int32 → Int32 → Int32 → Mem → Option (Mem × Unit)) (x2 : Int32) (x4 : Int32) (x5 : Int32) (x6 : Int32) (x7 : Int32) (x8 : Int32) (y0 : Int32) (M : Mem) : Option (Mem × Unit) := chk (okb (0 : Int32) 86) (cap (mX7_between (y0).toInt64 (0 : Int64) (((rd M (k0 + 1) ((0 : Int32)).toNatClampNeg) - (1 : Int32))).toInt64 M) (fun r14 => ite2 (r14 = 0) (mX7_laySide_b136 k0 ih16 x2 x4 x5 x6 x7 x8 M) (cap (mX7_has x6 y0 M) (fun r19 => ite2 (r19 = 0) (mX7_laySide_b136 k0 ih16 x2 x4 x5 x6 x7 x8 M) (chk (okb ((11 : Int32) + y0) 86) (ite2 ((rd M (k0 + 1) (((11 : Int32) + y0)).toNatClampNeg) = (1 : Int32)) (mX7_laySide_b103 k0 ih16 x2 x4 x5 x6 x7 x8 (1 : Int32) M) (mX7_laySide_b103 k0 ih16 x2 x4 x5 x6 x7 x8 (0 : Int32) M)))))))
set_option maxHeartbeats 4000000 in
set_option maxRecDepth 100000 in
theorem tX7_laySide_b53 {p : Program} {l : Launch} {e : Env} {s : State} {m : MethodId} {args : Array Value} {below : List Frame} {meth : Method} {c : Code} {G : GT} {kd : Nat → Nat × Nat} {ad : Nat → Nat} (C : Cx p s m args meth c cX7_laySide 11 none RX7 G kd ad) {k0 : Nat} (hk0 : kModel kd k0) {MO : Mem} {vo : Unit} {ih16 : Int32 → Int32 → Int32 → Int32 → Int32 → Int32 → Mem → Option (Mem × Unit)} (hih16 : ∀ (x2 : Int32) (x4 : Int32) (x5 : Int32) (x6 : Int32) (x7 : Int32) (x8 : Int32) (M : Mem), ih16 x2 x4 x5 x6 x7 x8 M = some (MO, vo) → At p l e (rmO 2 0 0) s m args below meth c 0 0 (MQ below (Qg G kd ad s.heap.size MO none) args s 0 0 (AS kd ad s.heap.size)) G kd ad 11 16 [(0, .ref (ad k0)), (2, .int x2), (4, .int x4), (5, .int x5), (6, .int x6), (7, .int x7), (8, .int x8)] [] M) : ∀ (x2 : Int32) (x4 : Int32) (x5 : Int32) (x6 : Int32) (x7 : Int32) (x8 : Int32) (y0 : Int32) (M : Mem), mX7_laySide_b53 k0 ih16 x2 x4 x5 x6 x7 x8 y0 M = some (MO, vo) → At p l e (rmO 2 0 0) s m args below meth c 0 0 (MQ below (Qg G kd ad s.heap.size MO none) args s 0 0 (AS kd ad s.heap.size)) G kd ad 11 53 [(0, .ref (ad k0)), (2, .int x2), (4, .int x4), (5, .int x5), (6, .int x6), (7, .int x7), (8, .int x8)] [.int y0] M := by
  intro x2 x4 x5 x6 x7 x8 y0 M hf H locs ls hI hl
  obtain ⟨hx, hb, hml, hr, hown, hts, hlk, hK, hap, hsx⟩ := id C
  unfold mX7_laySide_b53 at hf
  refine lv_istore (lv' := [(9, .int y0), (0, .ref (ad k0)), (2, .int x2), (4, .int x4), (5, .int x5), (6, .int x6), (7, .int x7), (8, .int x8)]) hx hb (dc tbX7_laySide_0_k 29 rfl) hl (by decide) rfl (fun ls hl => ?_)
  refine lv_iload hx hb (dc tbX7_laySide_0_k 30 rfl) (lv_at hl 0 rfl) ?_
  refine lv_i2l hx hb (dc tbX7_laySide_0_k 31 rfl) rfl ?_
  refine lv_lconst (v := 0) hx hb (dc tbX7_laySide_0_k 32 rfl) (by decide) ?_
  refine lv_aload_n hx hb (dc tbX7_laySide_0_k 33 rfl) rfl (lv_at hl 1 rfl) ?_
  refine gg7_0 hx hb hts hown hK hI hk0.1 q_t7_76 (dc tbX7_laySide_0_k 34 rfl) ?_
  refine lv_iconst (v := 0) hx hb (dc tbX7_laySide_0_k 35 rfl) ic_0 ?_
  obtain ⟨h12, hf⟩ := chk_s hf
  refine g_iald hx hb hK hI hk0.2.1 (okb_in h12) (dc tbX7_laySide_0_k 36 rfl) ?_
  refine lv_iconst (v := 1) hx hb (dc tbX7_laySide_0_k 37 rfl) ic_1 ?_
  refine lv_isub hx hb (dc tbX7_laySide_0_k 38 rfl) ?_
  refine lv_i2l hx hb (dc tbX7_laySide_0_k 39 rfl) rfl ?_
  obtain ⟨r14, q13, hf⟩ := cap_s hf
  refine g_callSi hx hb hml hown hts hK hap hsx hI (tX7_between l  q13 H.size) cs_X7_between q_t7_190 rfl rfl ⟨Nat.le_of_ble_eq_true rfl, Nat.le_of_ble_eq_true rfl⟩ rfl hl.1 rfl (Nat.le_of_ble_eq_true rfl) (dc tbX7_laySide_1_k 0 rfl) ⟨Nat.le_of_ble_eq_true rfl, Nat.le_of_ble_eq_true rfl⟩ (fun H locs hI => ?_)
  refine lv_if_eq (tgt := 136) hx hb (dc tbX7_laySide_1_k 1 rfl) rfl (fun c16 => ?_) (fun c16 => ?_)
  · have hf := ite_t c16 hf
    exact tX7_laySide_b136 C hk0 hih16 x2 x4 x5 x6 x7 x8 M hf _ _ _ hI (lv_sub hl [1, 2, 3, 4, 5, 6, 7] rfl)
  · have hf := ite_f c16 hf
    refine lv_iload hx hb (dc tbX7_laySide_1_k 2 rfl) (lv_at hl 5 rfl) ?_
    refine lv_iload hx hb (dc tbX7_laySide_1_k 3 rfl) (lv_at hl 0 rfl) ?_
    obtain ⟨r19, q18, hf⟩ := cap_s hf
    refine g_callSi hx hb hml hown hts hK hap hsx hI (tX7_has l  q18 H.size) cs_X7_has q_t8_226 rfl rfl ⟨Nat.le_of_ble_eq_true rfl, Nat.le_of_ble_eq_true rfl⟩ rfl hl.1 rfl (Nat.le_of_ble_eq_true rfl) (dc tbX7_laySide_1_k 4 rfl) ⟨Nat.le_of_ble_eq_true rfl, Nat.le_of_ble_eq_true rfl⟩ (fun H locs hI => ?_)
    refine lv_if_eq (tgt := 136) hx hb (dc tbX7_laySide_1_k 5 rfl) rfl (fun c21 => ?_) (fun c21 => ?_)
    · have hf := ite_t c21 hf
      exact tX7_laySide_b136 C hk0 hih16 x2 x4 x5 x6 x7 x8 M hf _ _ _ hI (lv_sub hl [1, 2, 3, 4, 5, 6, 7] rfl)
    · have hf := ite_f c21 hf
      refine lv_aload_n hx hb (dc tbX7_laySide_1_k 6 rfl) rfl (lv_at hl 1 rfl) ?_
      refine gg7_0 hx hb hts hown hK hI hk0.1 q_t7_76 (dc tbX7_laySide_1_k 7 rfl) ?_
      refine lv_bipush (v := 11) hx hb (dc tbX7_laySide_1_k 8 rfl) bp_11 ?_
      refine lv_iload hx hb (dc tbX7_laySide_1_k 9 rfl) (lv_at hl 0 rfl) ?_
      refine lv_iadd hx hb (dc tbX7_laySide_1_k 10 rfl) ?_
      obtain ⟨h22, hf⟩ := chk_s hf
      refine g_iald hx hb hK hI hk0.2.1 (okb_in h22) (dc tbX7_laySide_1_k 11 rfl) ?_
      refine lv_iconst (v := 1) hx hb (dc tbX7_laySide_1_k 12 rfl) ic_1 ?_
      refine lv_icmp_ne (tgt := 102) hx hb (dc tbX7_laySide_1_k 13 rfl) rfl (fun c23 => ?_) (fun c23 => ?_)
      · have hf := ite_f c23 hf
        refine lv_iconst (v := 0) hx hb (dc tbX7_laySide_1_k 16 rfl) ic_0 ?_
        exact tX7_laySide_b103 C hk0 hih16 x2 x4 x5 x6 x7 x8 (0 : Int32) M hf _ _ _ hI (lv_sub hl [1, 2, 3, 4, 5, 6, 7] rfl)
      · have hf := ite_t c23 hf
        refine lv_iconst (v := 1) hx hb (dc tbX7_laySide_1_k 14 rfl) ic_1 ?_
        refine lv_goto (tgt := 103) hx hb (dc tbX7_laySide_1_k 15 rfl) rfl ?_
        exact tX7_laySide_b103 C hk0 hih16 x2 x4 x5 x6 x7 x8 (1 : Int32) M hf _ _ _ hI (lv_sub hl [1, 2, 3, 4, 5, 6, 7] rfl)
def mX7_laySide_b16 (k0 : Nat) (ih16 : Int32 → Int32 → Int32 → Int32 → Int32 → Int32 → Mem → Option (Mem × Unit)) (x2 : Int32) (x4 : Int32) (x5 : Int32) (x6 : Int32) (x7 : Int32) (x8 : Int32) (M : Mem) : Option (Mem × Unit) := ite2 (x8 < 0) (some (M, ())) (chk (okb (1 : Int32) 86) (ite2 ((rd M (k0 + 1) ((1 : Int32)).toNatClampNeg) ≤ x8) (some (M, ())) (cal (mX7_layLeg k0 x8 x7 M) (fun M10 _ => ite2 (x2 ≤ 0) (mX7_laySide_b53 k0 ih16 x2 x4 x5 x6 x7 x8 (x8 - (1 : Int32)) M10) (mX7_laySide_b53 k0 ih16 x2 x4 x5 x6 x7 x8 x8 M10)))))
set_option maxHeartbeats 4000000 in
set_option maxRecDepth 100000 in
theorem tX7_laySide_b16 {p : Program} {l : Launch} {e : Env} {s : State} {m : MethodId} {args : Array Value} {below : List Frame} {meth : Method} {c : Code} {G : GT} {kd : Nat → Nat × Nat} {ad : Nat → Nat} (C : Cx p s m args meth c cX7_laySide 11 none RX7 G kd ad) {k0 : Nat} (hk0 : kModel kd k0) {MO : Mem} {vo : Unit} {ih16 : Int32 → Int32 → Int32 → Int32 → Int32 → Int32 → Mem → Option (Mem × Unit)} (hih16 : ∀ (x2 : Int32) (x4 : Int32) (x5 : Int32) (x6 : Int32) (x7 : Int32) (x8 : Int32) (M : Mem), ih16 x2 x4 x5 x6 x7 x8 M = some (MO, vo) → At p l e (rmO 2 0 0) s m args below meth c 0 0 (MQ below (Qg G kd ad s.heap.size MO none) args s 0 0 (AS kd ad s.heap.size)) G kd ad 11 16 [(0, .ref (ad k0)), (2, .int x2), (4, .int x4), (5, .int x5), (6, .int x6), (7, .int x7), (8, .int x8)] [] M) : ∀ (x2 : Int32) (x4 : Int32) (x5 : Int32) (x6 : Int32) (x7 : Int32) (x8 : Int32) (M : Mem), mX7_laySide_b16 k0 ih16 x2 x4 x5 x6 x7 x8 M = some (MO, vo) → At p l e (rmO 2 0 0) s m args below meth c 0 0 (MQ below (Qg G kd ad s.heap.size MO none) args s 0 0 (AS kd ad s.heap.size)) G kd ad 11 16 [(0, .ref (ad k0)), (2, .int x2), (4, .int x4), (5, .int x5), (6, .int x6), (7, .int x7), (8, .int x8)] [] M := by
  intro x2 x4 x5 x6 x7 x8 M hf H locs ls hI hl
  obtain ⟨hx, hb, hml, hr, hown, hts, hlk, hK, hap, hsx⟩ := id C
  unfold mX7_laySide_b16 at hf
  refine lv_iload hx hb (dc tbX7_laySide_0_k 10 rfl) (lv_at hl 6 rfl) ?_
  refine lv_if_lt (tgt := 145) hx hb (dc tbX7_laySide_0_k 11 rfl) rfl (fun c5 => ?_) (fun c5 => ?_)
  · have hf := ite_t c5 hf
    cases hf
    exact g_vret hx hb hr hlk hI (dc tbX7_laySide_2_k 0 rfl)
  · have hf := ite_f c5 hf
    refine lv_iload hx hb (dc tbX7_laySide_0_k 12 rfl) (lv_at hl 6 rfl) ?_
    refine lv_aload_n hx hb (dc tbX7_laySide_0_k 13 rfl) rfl (lv_at hl 0 rfl) ?_
    refine gg7_0 hx hb hts hown hK hI hk0.1 q_t7_76 (dc tbX7_laySide_0_k 14 rfl) ?_
    refine lv_iconst (v := 1) hx hb (dc tbX7_laySide_0_k 15 rfl) ic_1 ?_
    obtain ⟨h6, hf⟩ := chk_s hf
    refine g_iald hx hb hK hI hk0.2.1 (okb_in h6) (dc tbX7_laySide_0_k 16 rfl) ?_
    refine lv_icmp_ge (tgt := 145) hx hb (dc tbX7_laySide_0_k 17 rfl) rfl (fun c7 => ?_) (fun c7 => ?_)
    · have hf := ite_t c7 hf
      cases hf
      exact g_vret hx hb hr hlk hI (dc tbX7_laySide_2_k 0 rfl)
    · have hf := ite_f c7 hf
      refine lv_aload_n hx hb (dc tbX7_laySide_0_k 18 rfl) rfl (lv_at hl 0 rfl) ?_
      refine lv_iload hx hb (dc tbX7_laySide_0_k 19 rfl) (lv_at hl 6 rfl) ?_
      refine lv_iload hx hb (dc tbX7_laySide_0_k 20 rfl) (lv_at hl 5 rfl) ?_
      obtain ⟨M10, r9, q8, hf⟩ := cal_s hf
      refine g_callVv hx hb hml hown hts hK hap hsx hI (tX7_layLeg l hk0 q8 H.size) cv_X7_layLeg q_t8_155 rfl rfl ⟨Nat.le_of_ble_eq_true rfl, Nat.le_of_ble_eq_true rfl⟩ hk0.1 (by simp) rfl rfl rfl hl.1 rfl (Nat.le_of_ble_eq_true rfl) (dc tbX7_laySide_0_k 21 rfl) ⟨Nat.le_of_ble_eq_true rfl, Nat.le_of_ble_eq_true rfl⟩ (fun H locs hI => ?_)
      refine lv_iload_n hx hb (dc tbX7_laySide_0_k 22 rfl) rfl (lv_at hl 1 rfl) ?_
      refine lv_if_le (tgt := 49) hx hb (dc tbX7_laySide_0_k 23 rfl) rfl (fun c11 => ?_) (fun c11 => ?_)
      · have hf := ite_t c11 hf
        refine lv_iload hx hb (dc tbX7_laySide_0_k 26 rfl) (lv_at hl 6 rfl) ?_
        refine lv_iconst (v := 1) hx hb (dc tbX7_laySide_0_k 27 rfl) ic_1 ?_
        refine lv_isub hx hb (dc tbX7_laySide_0_k 28 rfl) ?_
        exact tX7_laySide_b53 C hk0 hih16 x2 x4 x5 x6 x7 x8 (x8 - (1 : Int32)) M10 hf _ _ _ hI (lv_sub hl [0, 1, 2, 3, 4, 5, 6] rfl)
      · have hf := ite_f c11 hf
        refine lv_iload hx hb (dc tbX7_laySide_0_k 24 rfl) (lv_at hl 6 rfl) ?_
        refine lv_goto (tgt := 53) hx hb (dc tbX7_laySide_0_k 25 rfl) rfl ?_
        exact tX7_laySide_b53 C hk0 hih16 x2 x4 x5 x6 x7 x8 x8 M10 hf _ _ _ hI (lv_sub hl [0, 1, 2, 3, 4, 5, 6] rfl)
def mX7_laySide_l16 (k0 : Nat) : Nat → Int32 → Int32 → Int32 → Int32 → Int32 → Int32 → Mem → Option (Mem × Unit)
  | 0 => fun _ _ _ _ _ _ _ => none
  | n + 1 => mX7_laySide_b16 k0 (mX7_laySide_l16 k0 n)
theorem tX7_laySide_l16 {p : Program} {l : Launch} {e : Env} {s : State} {m : MethodId} {args : Array Value} {below : List Frame} {meth : Method} {c : Code} {G : GT} {kd : Nat → Nat × Nat} {ad : Nat → Nat} (C : Cx p s m args meth c cX7_laySide 11 none RX7 G kd ad) {k0 : Nat} (hk0 : kModel kd k0) {MO : Mem} {vo : Unit}   : ∀ (fuel : Nat) (x2 : Int32) (x4 : Int32) (x5 : Int32) (x6 : Int32) (x7 : Int32) (x8 : Int32) (M : Mem), mX7_laySide_l16 k0 fuel x2 x4 x5 x6 x7 x8 M = some (MO, vo) → At p l e (rmO 2 0 0) s m args below meth c 0 0 (MQ below (Qg G kd ad s.heap.size MO none) args s 0 0 (AS kd ad s.heap.size)) G kd ad 11 16 [(0, .ref (ad k0)), (2, .int x2), (4, .int x4), (5, .int x5), (6, .int x6), (7, .int x7), (8, .int x8)] [] M := by
  intro fuel
  induction fuel with
  | zero => intro x2 x4 x5 x6 x7 x8 M hf; cases hf
  | succ n IH => exact tX7_laySide_b16 C hk0 IH
def mX7_laySide (k0 : Nat) (x1 : Int32) (x2 : Int32) (x3 : Int32) (x4 : Int32) (x5 : Int32) (x6 : Int32) (M : Mem) : Option (Mem × Unit) := bnd (wr M k0 21 (0 : Int32)) (fun M1 => bnd (wr M1 k0 22 (0 : Int32)) (fun M3 => mX7_laySide_l16 k0 5000 x2 x4 x5 x6 x3 x1 M3))
set_option maxHeartbeats 4000000 in
set_option maxRecDepth 100000 in
theorem tX7_laySide (l : Launch) {G : GT} {kd : Nat → Nat × Nat} {ad : Nat → Nat} {k0 : Nat} (hk0 : kModel kd k0) {x1 : Int32} {x2 : Int32} {x3 : Int32} {x4 : Int32} {x5 : Int32} {x6 : Int32} {M : Mem} {MO : Mem} {vo : Unit} (hf : mX7_laySide k0 x1 x2 x3 x4 x5 x6 M = some (MO, vo)) (n : Nat) : Met l yX7_laySide (Cond.code yX7_laySide cX7_laySide 11 none :: WA) (rmO 2 0 0) (Pg G kd ad n [.ref (ad k0), .int x1, .int x2, .int x3, .int x4, .int x5, .int x6] M) (Qg G kd ad n MO none) 0 0 (AS kd ad n) := by
  refine g_body (own := RX7) (by decide) rfl ?_ (Nat.le_of_ble_eq_true rfl)
  intro p e s m args below meth c C _ H locs ls hI hl
  obtain ⟨hx, hb, hml, hr, hown, hts, hlk, hK, hap, hsx⟩ := id C
  have hl : lv_has ls 11 [(0, .ref (ad k0)), (1, .int x1), (2, .int x2), (3, .int x3), (4, .int x4), (5, .int x5), (6, .int x6)] := hl
  unfold mX7_laySide at hf
  refine lv_iload_n hx hb (dc tbX7_laySide_0_k 0 rfl) rfl (lv_at hl 3 rfl) ?_
  refine lv_istore (lv' := [(7, .int x3), (0, .ref (ad k0)), (1, .int x1), (2, .int x2), (3, .int x3), (4, .int x4), (5, .int x5), (6, .int x6)]) hx hb (dc tbX7_laySide_0_k 1 rfl) hl (by decide) rfl (fun ls hl => ?_)
  refine lv_aload_n hx hb (dc tbX7_laySide_0_k 2 rfl) rfl (lv_at hl 1 rfl) ?_
  refine lv_iconst (v := 0) hx hb (dc tbX7_laySide_0_k 3 rfl) ic_0 ?_
  obtain ⟨M1, e2, hf⟩ := bnd_s hf
  refine gp7_21 hx hb hts hown hK hap hI hk0.1 q_t7_97 (dc tbX7_laySide_0_k 4 rfl) e2 (fun H locs hI => ?_)
  refine lv_aload_n hx hb (dc tbX7_laySide_0_k 5 rfl) rfl (lv_at hl 1 rfl) ?_
  refine lv_iconst (v := 0) hx hb (dc tbX7_laySide_0_k 6 rfl) ic_0 ?_
  obtain ⟨M3, e4, hf⟩ := bnd_s hf
  refine gp7_22 hx hb hts hown hK hap hI hk0.1 q_t7_98 (dc tbX7_laySide_0_k 7 rfl) e4 (fun H locs hI => ?_)
  refine lv_iload_n hx hb (dc tbX7_laySide_0_k 8 rfl) rfl (lv_at hl 2 rfl) ?_
  refine lv_istore (lv' := [(8, .int x1), (7, .int x3), (0, .ref (ad k0)), (1, .int x1), (2, .int x2), (3, .int x3), (4, .int x4), (5, .int x5), (6, .int x6)]) hx hb (dc tbX7_laySide_0_k 9 rfl) hl (by decide) rfl (fun ls hl => ?_)
  exact tX7_laySide_l16 C hk0 5000 x2 x4 x5 x6 x3 x1 M3 hf _ _ _ hI (lv_sub hl [2, 4, 6, 7, 8, 1, 0] rfl)
theorem cv_X7_laySide : cvF RX7 yX7_laySide cX7_laySide 11 none 6 := ⟨q_t9_3, q_s5_9, q_t1_11, q_t9_4, by decide +kernel⟩
def mX7_laySheet_b69 (k0 : Nat) (x3 : Int32) (x4 : Int32) (y1 : Int32) (y2 : Int32) (y3 : Int32) (y4 : Int32) (M : Mem) : Option (Mem × Unit) := cal (mX7_laySide k0 y1 y2 y3 y4 x4 x3 M) (fun M12 _ => some (M12, ()))
set_option maxHeartbeats 4000000 in
set_option maxRecDepth 100000 in
theorem tX7_laySheet_b69 {p : Program} {l : Launch} {e : Env} {s : State} {m : MethodId} {args : Array Value} {below : List Frame} {meth : Method} {c : Code} {G : GT} {kd : Nat → Nat × Nat} {ad : Nat → Nat} (C : Cx p s m args meth c cX7_laySheet 5 none RX7 G kd ad) {k0 : Nat} (hk0 : kModel kd k0) {MO : Mem} {vo : Unit}   : ∀ (x3 : Int32) (x4 : Int32) (y1 : Int32) (y2 : Int32) (y3 : Int32) (y4 : Int32) (M : Mem), mX7_laySheet_b69 k0 x3 x4 y1 y2 y3 y4 M = some (MO, vo) → At p l e (rmO 3 0 0) s m args below meth c 0 0 (MQ below (Qg G kd ad s.heap.size MO none) args s 0 0 (AS kd ad s.heap.size)) G kd ad 5 69 [(3, .int x3), (4, .int x4)] [.int y4, .int y3, .int y2, .int y1, .ref (ad k0)] M := by
  intro x3 x4 y1 y2 y3 y4 M hf H locs ls hI hl
  obtain ⟨hx, hb, hml, hr, hown, hts, hlk, hK, hap, hsx⟩ := id C
  unfold mX7_laySheet_b69 at hf
  refine lv_iload hx hb (dc tbX7_laySheet_1_k 2 rfl) (lv_at hl 1 rfl) ?_
  refine lv_iload_n hx hb (dc tbX7_laySheet_1_k 3 rfl) rfl (lv_at hl 0 rfl) ?_
  obtain ⟨M12, r11, q10, hf⟩ := cal_s hf
  refine g_callVv hx hb hml hown hts hK hap hsx hI (tX7_laySide l hk0 q10 H.size) cv_X7_laySide q_t9_1 rfl rfl ⟨Nat.le_of_ble_eq_true rfl, Nat.le_of_ble_eq_true rfl⟩ hk0.1 (by simp) rfl rfl rfl hl.1 rfl (Nat.le_of_ble_eq_true rfl) (dc tbX7_laySheet_1_k 4 rfl) ⟨Nat.le_of_ble_eq_true rfl, Nat.le_of_ble_eq_true rfl⟩ (fun H locs hI => ?_)
  cases hf
  exact g_vret hx hb hr hlk hI (dc tbX7_laySheet_1_k 5 rfl)
def mX7_laySheet_b60 (k0 : Nat) (x2 : Int32) (x3 : Int32) (x4 : Int32) (y1 : Int32) (y2 : Int32) (y3 : Int32) (M : Mem) : Option (Mem × Unit) := ite2 (x2 = 0) (mX7_laySheet_b69 k0 x3 x4 y1 y2 y3 (3 : Int32) M) (mX7_laySheet_b69 k0 x3 x4 y1 y2 y3 (1 : Int32) M)
set_option maxHeartbeats 4000000 in
set_option maxRecDepth 100000 in
theorem tX7_laySheet_b60 {p : Program} {l : Launch} {e : Env} {s : State} {m : MethodId} {args : Array Value} {below : List Frame} {meth : Method} {c : Code} {G : GT} {kd : Nat → Nat × Nat} {ad : Nat → Nat} (C : Cx p s m args meth c cX7_laySheet 5 none RX7 G kd ad) {k0 : Nat} (hk0 : kModel kd k0) {MO : Mem} {vo : Unit}   : ∀ (x2 : Int32) (x3 : Int32) (x4 : Int32) (y1 : Int32) (y2 : Int32) (y3 : Int32) (M : Mem), mX7_laySheet_b60 k0 x2 x3 x4 y1 y2 y3 M = some (MO, vo) → At p l e (rmO 3 0 0) s m args below meth c 0 0 (MQ below (Qg G kd ad s.heap.size MO none) args s 0 0 (AS kd ad s.heap.size)) G kd ad 5 60 [(2, .int x2), (3, .int x3), (4, .int x4)] [.int y3, .int y2, .int y1, .ref (ad k0)] M := by
  intro x2 x3 x4 y1 y2 y3 M hf H locs ls hI hl
  obtain ⟨hx, hb, hml, hr, hown, hts, hlk, hK, hap, hsx⟩ := id C
  unfold mX7_laySheet_b60 at hf
  refine lv_iload_n hx hb (dc tbX7_laySheet_0_k 37 rfl) rfl (lv_at hl 0 rfl) ?_
  refine lv_if_ne (tgt := 68) hx hb (dc tbX7_laySheet_0_k 38 rfl) rfl (fun c9 => ?_) (fun c9 => ?_)
  · have hf := ite_f c9 hf
    refine lv_iconst (v := 1) hx hb (dc tbX7_laySheet_1_k 1 rfl) ic_1 ?_
    exact tX7_laySheet_b69 C hk0 x3 x4 y1 y2 y3 (1 : Int32) M hf _ _ _ hI (lv_sub hl [1, 2] rfl)
  · have hf := ite_t c9 hf
    refine lv_iconst (v := 3) hx hb (dc tbX7_laySheet_0_k 39 rfl) ic_3 ?_
    refine lv_goto (tgt := 69) hx hb (dc tbX7_laySheet_1_k 0 rfl) rfl ?_
    exact tX7_laySheet_b69 C hk0 x3 x4 y1 y2 y3 (3 : Int32) M hf _ _ _ hI (lv_sub hl [1, 2] rfl)
def mX7_laySheet_b40 (k0 : Nat) (x1 : Int32) (x2 : Int32) (x3 : Int32) (x4 : Int32) (y1 : Int32) (y2 : Int32) (y3 : Int32) (y4 : Int32) (M : Mem) : Option (Mem × Unit) := cal (mX7_laySide k0 y1 y2 y3 y4 x4 x3 M) (fun M7 _ => ite2 (x2 = 0) (mX7_laySheet_b60 k0 x2 x3 x4 (x1 + (1 : Int32)) (1 : Int32) (0 : Int32) M7) (mX7_laySheet_b60 k0 x2 x3 x4 (x1 + (1 : Int32)) (1 : Int32) (3 : Int32) M7))
set_option maxHeartbeats 4000000 in
set_option maxRecDepth 100000 in
theorem tX7_laySheet_b40 {p : Program} {l : Launch} {e : Env} {s : State} {m : MethodId} {args : Array Value} {below : List Frame} {meth : Method} {c : Code} {G : GT} {kd : Nat → Nat × Nat} {ad : Nat → Nat} (C : Cx p s m args meth c cX7_laySheet 5 none RX7 G kd ad) {k0 : Nat} (hk0 : kModel kd k0) {MO : Mem} {vo : Unit}   : ∀ (x1 : Int32) (x2 : Int32) (x3 : Int32) (x4 : Int32) (y1 : Int32) (y2 : Int32) (y3 : Int32) (y4 : Int32) (M : Mem), mX7_laySheet_b40 k0 x1 x2 x3 x4 y1 y2 y3 y4 M = some (MO, vo) → At p l e (rmO 3 0 0) s m args below meth c 0 0 (MQ below (Qg G kd ad s.heap.size MO none) args s 0 0 (AS kd ad s.heap.size)) G kd ad 5 40 [(0, .ref (ad k0)), (1, .int x1), (2, .int x2), (3, .int x3), (4, .int x4)] [.int y4, .int y3, .int y2, .int y1, .ref (ad k0)] M := by
  intro x1 x2 x3 x4 y1 y2 y3 y4 M hf H locs ls hI hl
  obtain ⟨hx, hb, hml, hr, hown, hts, hlk, hK, hap, hsx⟩ := id C
  unfold mX7_laySheet_b40 at hf
  refine lv_iload hx hb (dc tbX7_laySheet_0_k 24 rfl) (lv_at hl 4 rfl) ?_
  refine lv_iload_n hx hb (dc tbX7_laySheet_0_k 25 rfl) rfl (lv_at hl 3 rfl) ?_
  obtain ⟨M7, r6, q5, hf⟩ := cal_s hf
  refine g_callVv hx hb hml hown hts hK hap hsx hI (tX7_laySide l hk0 q5 H.size) cv_X7_laySide q_t9_1 rfl rfl ⟨Nat.le_of_ble_eq_true rfl, Nat.le_of_ble_eq_true rfl⟩ hk0.1 (by simp) rfl rfl rfl hl.1 rfl (Nat.le_of_ble_eq_true rfl) (dc tbX7_laySheet_0_k 26 rfl) ⟨Nat.le_of_ble_eq_true rfl, Nat.le_of_ble_eq_true rfl⟩ (fun H locs hI => ?_)
  refine lv_aload_n hx hb (dc tbX7_laySheet_0_k 27 rfl) rfl (lv_at hl 0 rfl) ?_
  refine lv_iload_n hx hb (dc tbX7_laySheet_0_k 28 rfl) rfl (lv_at hl 1 rfl) ?_
  refine lv_iconst (v := 1) hx hb (dc tbX7_laySheet_0_k 29 rfl) ic_1 ?_
  refine lv_iadd hx hb (dc tbX7_laySheet_0_k 30 rfl) ?_
  refine lv_iconst (v := 1) hx hb (dc tbX7_laySheet_0_k 31 rfl) ic_1 ?_
  refine lv_iload_n hx hb (dc tbX7_laySheet_0_k 32 rfl) rfl (lv_at hl 2 rfl) ?_
  refine lv_if_ne (tgt := 59) hx hb (dc tbX7_laySheet_0_k 33 rfl) rfl (fun c8 => ?_) (fun c8 => ?_)
  · have hf := ite_f c8 hf
    refine lv_iconst (v := 3) hx hb (dc tbX7_laySheet_0_k 36 rfl) ic_3 ?_
    exact tX7_laySheet_b60 C hk0 x2 x3 x4 (x1 + (1 : Int32)) (1 : Int32) (3 : Int32) M7 hf _ _ _ hI (lv_sub hl [2, 3, 4] rfl)
  · have hf := ite_t c8 hf
    refine lv_iconst (v := 0) hx hb (dc tbX7_laySheet_0_k 34 rfl) ic_0 ?_
    refine lv_goto (tgt := 60) hx hb (dc tbX7_laySheet_0_k 35 rfl) rfl ?_
    exact tX7_laySheet_b60 C hk0 x2 x3 x4 (x1 + (1 : Int32)) (1 : Int32) (0 : Int32) M7 hf _ _ _ hI (lv_sub hl [2, 3, 4] rfl)
def mX7_laySheet_b31 (k0 : Nat) (x1 : Int32) (x2 : Int32) (x3 : Int32) (x4 : Int32) (y1 : Int32) (y2 : Int32) (y3 : Int32) (M : Mem) : Option (Mem × Unit) := ite2 (x2 = 0) (mX7_laySheet_b40 k0 x1 x2 x3 x4 y1 y2 y3 (1 : Int32) M) (mX7_laySheet_b40 k0 x1 x2 x3 x4 y1 y2 y3 (3 : Int32) M)
set_option maxHeartbeats 4000000 in
set_option maxRecDepth 100000 in
theorem tX7_laySheet_b31 {p : Program} {l : Launch} {e : Env} {s : State} {m : MethodId} {args : Array Value} {below : List Frame} {meth : Method} {c : Code} {G : GT} {kd : Nat → Nat × Nat} {ad : Nat → Nat} (C : Cx p s m args meth c cX7_laySheet 5 none RX7 G kd ad) {k0 : Nat} (hk0 : kModel kd k0) {MO : Mem} {vo : Unit}   : ∀ (x1 : Int32) (x2 : Int32) (x3 : Int32) (x4 : Int32) (y1 : Int32) (y2 : Int32) (y3 : Int32) (M : Mem), mX7_laySheet_b31 k0 x1 x2 x3 x4 y1 y2 y3 M = some (MO, vo) → At p l e (rmO 3 0 0) s m args below meth c 0 0 (MQ below (Qg G kd ad s.heap.size MO none) args s 0 0 (AS kd ad s.heap.size)) G kd ad 5 31 [(0, .ref (ad k0)), (1, .int x1), (2, .int x2), (3, .int x3), (4, .int x4)] [.int y3, .int y2, .int y1, .ref (ad k0)] M := by
  intro x1 x2 x3 x4 y1 y2 y3 M hf H locs ls hI hl
  obtain ⟨hx, hb, hml, hr, hown, hts, hlk, hK, hap, hsx⟩ := id C
  unfold mX7_laySheet_b31 at hf
  refine lv_iload_n hx hb (dc tbX7_laySheet_0_k 19 rfl) rfl (lv_at hl 2 rfl) ?_
  refine lv_if_ne (tgt := 39) hx hb (dc tbX7_laySheet_0_k 20 rfl) rfl (fun c4 => ?_) (fun c4 => ?_)
  · have hf := ite_f c4 hf
    refine lv_iconst (v := 3) hx hb (dc tbX7_laySheet_0_k 23 rfl) ic_3 ?_
    exact tX7_laySheet_b40 C hk0 x1 x2 x3 x4 y1 y2 y3 (3 : Int32) M hf _ _ _ hI (lv_sub hl [0, 1, 2, 3, 4] rfl)
  · have hf := ite_t c4 hf
    refine lv_iconst (v := 1) hx hb (dc tbX7_laySheet_0_k 21 rfl) ic_1 ?_
    refine lv_goto (tgt := 40) hx hb (dc tbX7_laySheet_0_k 22 rfl) rfl ?_
    exact tX7_laySheet_b40 C hk0 x1 x2 x3 x4 y1 y2 y3 (1 : Int32) M hf _ _ _ hI (lv_sub hl [0, 1, 2, 3, 4] rfl)
def mX7_laySheet_b17 (k0 : Nat) (x1 : Int32) (x2 : Int32) (x3 : Int32) (y0 : Int32) (M : Mem) : Option (Mem × Unit) := ite2 (x2 = 0) (mX7_laySheet_b31 k0 x1 x2 x3 y0 x1 (-1 : Int32) (3 : Int32) M) (mX7_laySheet_b31 k0 x1 x2 x3 y0 x1 (-1 : Int32) (0 : Int32) M)
set_option maxHeartbeats 4000000 in
set_option maxRecDepth 100000 in
theorem tX7_laySheet_b17 {p : Program} {l : Launch} {e : Env} {s : State} {m : MethodId} {args : Array Value} {below : List Frame} {meth : Method} {c : Code} {G : GT} {kd : Nat → Nat × Nat} {ad : Nat → Nat} (C : Cx p s m args meth c cX7_laySheet 5 none RX7 G kd ad) {k0 : Nat} (hk0 : kModel kd k0) {MO : Mem} {vo : Unit}   : ∀ (x1 : Int32) (x2 : Int32) (x3 : Int32) (y0 : Int32) (M : Mem), mX7_laySheet_b17 k0 x1 x2 x3 y0 M = some (MO, vo) → At p l e (rmO 3 0 0) s m args below meth c 0 0 (MQ below (Qg G kd ad s.heap.size MO none) args s 0 0 (AS kd ad s.heap.size)) G kd ad 5 17 [(0, .ref (ad k0)), (1, .int x1), (2, .int x2), (3, .int x3)] [.int y0] M := by
  intro x1 x2 x3 y0 M hf H locs ls hI hl
  obtain ⟨hx, hb, hml, hr, hown, hts, hlk, hK, hap, hsx⟩ := id C
  unfold mX7_laySheet_b17 at hf
  refine lv_istore (lv' := [(4, .int y0), (0, .ref (ad k0)), (1, .int x1), (2, .int x2), (3, .int x3)]) hx hb (dc tbX7_laySheet_0_k 10 rfl) hl (by decide) rfl (fun ls hl => ?_)
  refine lv_aload_n hx hb (dc tbX7_laySheet_0_k 11 rfl) rfl (lv_at hl 1 rfl) ?_
  refine lv_iload_n hx hb (dc tbX7_laySheet_0_k 12 rfl) rfl (lv_at hl 2 rfl) ?_
  refine lv_iconst (v := -1) hx hb (dc tbX7_laySheet_0_k 13 rfl) ic_m1 ?_
  refine lv_iload_n hx hb (dc tbX7_laySheet_0_k 14 rfl) rfl (lv_at hl 3 rfl) ?_
  refine lv_if_ne (tgt := 30) hx hb (dc tbX7_laySheet_0_k 15 rfl) rfl (fun c3 => ?_) (fun c3 => ?_)
  · have hf := ite_f c3 hf
    refine lv_iconst (v := 0) hx hb (dc tbX7_laySheet_0_k 18 rfl) ic_0 ?_
    exact tX7_laySheet_b31 C hk0 x1 x2 x3 y0 x1 (-1 : Int32) (0 : Int32) M hf _ _ _ hI (lv_sub hl [1, 2, 3, 4, 0] rfl)
  · have hf := ite_t c3 hf
    refine lv_iconst (v := 3) hx hb (dc tbX7_laySheet_0_k 16 rfl) ic_3 ?_
    refine lv_goto (tgt := 31) hx hb (dc tbX7_laySheet_0_k 17 rfl) rfl ?_
    exact tX7_laySheet_b31 C hk0 x1 x2 x3 y0 x1 (-1 : Int32) (3 : Int32) M hf _ _ _ hI (lv_sub hl [1, 2, 3, 4, 0] rfl)
def mX7_laySheet (k0 : Nat) (x1 : Int32) (x2 : Int32) (x3 : Int32) (M : Mem) : Option (Mem × Unit) := chk (okb ((11 : Int32) + x1) 86) (ite2 ((rd M (k0 + 1) (((11 : Int32) + x1)).toNatClampNeg) = 0) (mX7_laySheet_b17 k0 x1 x2 x3 (1 : Int32) M) (mX7_laySheet_b17 k0 x1 x2 x3 (0 : Int32) M))
set_option maxHeartbeats 4000000 in
set_option maxRecDepth 100000 in
theorem tX7_laySheet (l : Launch) {G : GT} {kd : Nat → Nat × Nat} {ad : Nat → Nat} {k0 : Nat} (hk0 : kModel kd k0) {x1 : Int32} {x2 : Int32} {x3 : Int32} {M : Mem} {MO : Mem} {vo : Unit} (hf : mX7_laySheet k0 x1 x2 x3 M = some (MO, vo)) (n : Nat) : Met l yX7_laySheet (Cond.code yX7_laySheet cX7_laySheet 5 none :: WA) (rmO 3 0 0) (Pg G kd ad n [.ref (ad k0), .int x1, .int x2, .int x3] M) (Qg G kd ad n MO none) 0 0 (AS kd ad n) := by
  refine g_body (own := RX7) (by decide) rfl ?_ (Nat.le_of_ble_eq_true rfl)
  intro p e s m args below meth c C _ H locs ls hI hl
  obtain ⟨hx, hb, hml, hr, hown, hts, hlk, hK, hap, hsx⟩ := id C
  have hl : lv_has ls 5 [(0, .ref (ad k0)), (1, .int x1), (2, .int x2), (3, .int x3)] := hl
  unfold mX7_laySheet at hf
  refine lv_aload_n hx hb (dc tbX7_laySheet_0_k 0 rfl) rfl (lv_at hl 0 rfl) ?_
  refine gg7_0 hx hb hts hown hK hI hk0.1 q_t7_76 (dc tbX7_laySheet_0_k 1 rfl) ?_
  refine lv_bipush (v := 11) hx hb (dc tbX7_laySheet_0_k 2 rfl) bp_11 ?_
  refine lv_iload_n hx hb (dc tbX7_laySheet_0_k 3 rfl) rfl (lv_at hl 1 rfl) ?_
  refine lv_iadd hx hb (dc tbX7_laySheet_0_k 4 rfl) ?_
  obtain ⟨h1, hf⟩ := chk_s hf
  refine g_iald hx hb hK hI hk0.2.1 (okb_in h1) (dc tbX7_laySheet_0_k 5 rfl) ?_
  refine lv_if_ne (tgt := 16) hx hb (dc tbX7_laySheet_0_k 6 rfl) rfl (fun c2 => ?_) (fun c2 => ?_)
  · have hf := ite_f c2 hf
    refine lv_iconst (v := 0) hx hb (dc tbX7_laySheet_0_k 9 rfl) ic_0 ?_
    exact tX7_laySheet_b17 C hk0 x1 x2 x3 (0 : Int32) M hf _ _ _ hI (lv_sub hl [0, 1, 2, 3] rfl)
  · have hf := ite_t c2 hf
    refine lv_iconst (v := 1) hx hb (dc tbX7_laySheet_0_k 7 rfl) ic_1 ?_
    refine lv_goto (tgt := 17) hx hb (dc tbX7_laySheet_0_k 8 rfl) rfl ?_
    exact tX7_laySheet_b17 C hk0 x1 x2 x3 (1 : Int32) M hf _ _ _ hI (lv_sub hl [0, 1, 2, 3] rfl)
theorem cv_X7_laySheet : cvF RX7 yX7_laySheet cX7_laySheet 5 none 3 := ⟨q_t8_239, q_s5_8, q_t1_11, q_t9_0, by decide +kernel⟩
def mX7_isCrossing_b37 (M : Mem) : Option Int32 := some (0 : Int32)
set_option maxHeartbeats 4000000 in
set_option maxRecDepth 100000 in
theorem tX7_isCrossing_b37 {p : Program} {l : Launch} {e : Env} {s : State} {m : MethodId} {args : Array Value} {below : List Frame} {meth : Method} {c : Code} {G : GT} {kd : Nat → Nat × Nat} {ad : Nat → Nat} (C : Cx p s m args meth c cX7_isCrossing 6 (some .boolean) RX7 G kd ad)  {M : Mem} {vo : Int32}   : mX7_isCrossing_b37  M = some vo → At p l e (rmO 0 0 0) s m args below meth c 0 0 (MQ below (Qg G kd ad s.heap.size M (some (.int vo))) args s 0 0 (AS kd ad s.heap.size)) G kd ad 6 37 [] [] M := by
  intro hf H locs ls hI hl
  obtain ⟨hx, hb, hml, hr, hown, hts, hlk, hK, hap, hsx⟩ := id C
  unfold mX7_isCrossing_b37 at hf
  refine lv_iconst (v := 0) hx hb (dc tbX7_isCrossing_k 19 rfl) ic_0 ?_
  refine lv_goto (tgt := 61) hx hb (dc tbX7_isCrossing_k 20 rfl) rfl ?_
  cases hf
  exact g_zret hx hb hr hlk hI rfl (dc tbX7_isCrossing_k 31 rfl)
def mX7_isCrossing (x0 : Int32) (x1 : Int32) (x2 : Int32) (x3 : Int32) (M : Mem) : Option Int32 := bnd ((imin x0 x1)) (fun x4_5 => bnd ((imax x0 x1)) (fun x5_12 => ite2 (x4_5 = x5_12) (ite2 (x4_5 ≤ x2) (mX7_isCrossing_b37  M) (ite2 (x3 ≤ x4_5) (mX7_isCrossing_b37  M) (some (1 : Int32)))) (ite2 ((imin x5_12 x3) ≤ (imax x4_5 x2)) (some (0 : Int32)) (some (1 : Int32)))))
set_option maxHeartbeats 4000000 in
set_option maxRecDepth 100000 in
theorem tX7_isCrossing (l : Launch) {G : GT} {kd : Nat → Nat × Nat} {ad : Nat → Nat}  {x0 : Int32} {x1 : Int32} {x2 : Int32} {x3 : Int32} {M : Mem} {vo : Int32} (hf : mX7_isCrossing  x0 x1 x2 x3 M = some vo) (n : Nat) : Met l yX7_isCrossing (Cond.code yX7_isCrossing cX7_isCrossing 6 (some .boolean) :: WA) (rmO 0 0 0) (Pg G kd ad n [.int x0, .int x1, .int x2, .int x3] M) (Qg G kd ad n M (some (.int vo))) 0 0 (AS kd ad n) := by
  refine g_body (own := RX7) (by decide) rfl ?_ (Nat.le_of_ble_eq_true rfl)
  intro p e s m args below meth c C _ H locs ls hI hl
  obtain ⟨hx, hb, hml, hr, hown, hts, hlk, hK, hap, hsx⟩ := id C
  have hl : lv_has ls 6 [(0, .int x0), (1, .int x1), (2, .int x2), (3, .int x3)] := hl
  unfold mX7_isCrossing at hf
  refine lv_iload_n hx hb (dc tbX7_isCrossing_k 0 rfl) rfl (lv_at hl 0 rfl) ?_
  refine lv_iload_n hx hb (dc tbX7_isCrossing_k 1 rfl) rfl (lv_at hl 1 rfl) ?_
  refine va_mmin hx hb (hml.trans hl.1.symm) hown (hts _ q_t8_165) (hts _ q_t2_200) (hts _ q_t1_22) (hts _ q_t2_201) (Nat.le_of_ble_eq_true rfl) (Nat.le_of_ble_eq_true rfl) (Nat.le_of_ble_eq_true rfl) (Nat.le_of_ble_eq_true rfl) (dc tbX7_isCrossing_k 2 rfl) ?_
  refine lv_et (show (if _ then _ else _) = (imin x0 x1) from rfl) ?_
  obtain ⟨x4_5, e1, hf⟩ := bnd_s hf
  refine lv_ei e1 ?_
  refine lv_istore (lv' := [(4, .int x4_5), (0, .int x0), (1, .int x1), (2, .int x2), (3, .int x3)]) hx hb (dc tbX7_isCrossing_k 3 rfl) hl (by decide) rfl (fun ls hl => ?_)
  refine lv_iload_n hx hb (dc tbX7_isCrossing_k 4 rfl) rfl (lv_at hl 1 rfl) ?_
  refine lv_iload_n hx hb (dc tbX7_isCrossing_k 5 rfl) rfl (lv_at hl 2 rfl) ?_
  refine va_mmax hx hb (hml.trans hl.1.symm) hown (hts _ q_t8_166) (hts _ q_t2_203) (hts _ q_t1_22) (hts _ q_t2_204) (Nat.le_of_ble_eq_true rfl) (Nat.le_of_ble_eq_true rfl) (Nat.le_of_ble_eq_true rfl) (Nat.le_of_ble_eq_true rfl) (dc tbX7_isCrossing_k 6 rfl) ?_
  refine lv_et (show (if _ then _ else _) = (imax x0 x1) from rfl) ?_
  obtain ⟨x5_12, e2, hf⟩ := bnd_s hf
  refine lv_ei e2 ?_
  refine lv_istore (lv' := [(5, .int x5_12), (4, .int x4_5), (0, .int x0), (1, .int x1), (2, .int x2), (3, .int x3)]) hx hb (dc tbX7_isCrossing_k 7 rfl) hl (by decide) rfl (fun ls hl => ?_)
  refine lv_iload hx hb (dc tbX7_isCrossing_k 8 rfl) (lv_at hl 1 rfl) ?_
  refine lv_iload hx hb (dc tbX7_isCrossing_k 9 rfl) (lv_at hl 0 rfl) ?_
  refine lv_icmp_ne (tgt := 41) hx hb (dc tbX7_isCrossing_k 10 rfl) rfl (fun c3 => ?_) (fun c3 => ?_)
  · have hf := ite_f c3 hf
    refine lv_iload hx hb (dc tbX7_isCrossing_k 21 rfl) (lv_at hl 1 rfl) ?_
    refine lv_iload_n hx hb (dc tbX7_isCrossing_k 22 rfl) rfl (lv_at hl 4 rfl) ?_
    refine va_mmax hx hb (hml.trans hl.1.symm) hown (hts _ q_t8_166) (hts _ q_t2_203) (hts _ q_t1_22) (hts _ q_t2_204) (Nat.le_of_ble_eq_true rfl) (Nat.le_of_ble_eq_true rfl) (Nat.le_of_ble_eq_true rfl) (Nat.le_of_ble_eq_true rfl) (dc tbX7_isCrossing_k 23 rfl) ?_
    refine lv_et (show (if _ then _ else _) = (imax x4_5 x2) from rfl) ?_
    refine lv_iload hx hb (dc tbX7_isCrossing_k 24 rfl) (lv_at hl 0 rfl) ?_
    refine lv_iload_n hx hb (dc tbX7_isCrossing_k 25 rfl) rfl (lv_at hl 5 rfl) ?_
    refine va_mmin hx hb (hml.trans hl.1.symm) hown (hts _ q_t8_165) (hts _ q_t2_200) (hts _ q_t1_22) (hts _ q_t2_201) (Nat.le_of_ble_eq_true rfl) (Nat.le_of_ble_eq_true rfl) (Nat.le_of_ble_eq_true rfl) (Nat.le_of_ble_eq_true rfl) (dc tbX7_isCrossing_k 26 rfl) ?_
    refine lv_et (show (if _ then _ else _) = (imin x5_12 x3) from rfl) ?_
    refine lv_icmp_ge (tgt := 60) hx hb (dc tbX7_isCrossing_k 27 rfl) rfl (fun c4 => ?_) (fun c4 => ?_)
    · have hf := ite_t c4 hf
      refine lv_iconst (v := 0) hx hb (dc tbX7_isCrossing_k 30 rfl) ic_0 ?_
      cases hf
      exact g_zret hx hb hr hlk hI rfl (dc tbX7_isCrossing_k 31 rfl)
    · have hf := ite_f c4 hf
      refine lv_iconst (v := 1) hx hb (dc tbX7_isCrossing_k 28 rfl) ic_1 ?_
      refine lv_goto (tgt := 61) hx hb (dc tbX7_isCrossing_k 29 rfl) rfl ?_
      cases hf
      exact g_zret hx hb hr hlk hI rfl (dc tbX7_isCrossing_k 31 rfl)
  · have hf := ite_t c3 hf
    refine lv_iload hx hb (dc tbX7_isCrossing_k 11 rfl) (lv_at hl 1 rfl) ?_
    refine lv_iload_n hx hb (dc tbX7_isCrossing_k 12 rfl) rfl (lv_at hl 4 rfl) ?_
    refine lv_icmp_le (tgt := 37) hx hb (dc tbX7_isCrossing_k 13 rfl) rfl (fun c5 => ?_) (fun c5 => ?_)
    · have hf := ite_t c5 hf
      exact tX7_isCrossing_b37 C  hf _ _ _ hI (lv_sub hl [] rfl)
    · have hf := ite_f c5 hf
      refine lv_iload hx hb (dc tbX7_isCrossing_k 14 rfl) (lv_at hl 1 rfl) ?_
      refine lv_iload_n hx hb (dc tbX7_isCrossing_k 15 rfl) rfl (lv_at hl 5 rfl) ?_
      refine lv_icmp_ge (tgt := 37) hx hb (dc tbX7_isCrossing_k 16 rfl) rfl (fun c6 => ?_) (fun c6 => ?_)
      · have hf := ite_t c6 hf
        exact tX7_isCrossing_b37 C  hf _ _ _ hI (lv_sub hl [] rfl)
      · have hf := ite_f c6 hf
        refine lv_iconst (v := 1) hx hb (dc tbX7_isCrossing_k 17 rfl) ic_1 ?_
        refine lv_goto (tgt := 61) hx hb (dc tbX7_isCrossing_k 18 rfl) rfl ?_
        cases hf
        exact g_zret hx hb hr hlk hI rfl (dc tbX7_isCrossing_k 31 rfl)
theorem cs_X7_isCrossing : csF yX7_isCrossing cX7_isCrossing 6 (some .boolean) 4 := ⟨q_t9_34, q_t1_11, q_t9_35, by decide +kernel⟩
def mX7_isInside (k0 : Nat) (x1 : Int32) (x2 : Int32) (x3 : Int32) (x4 : Int32) (x5 : Int32) (M : Mem) : Option Int32 := chk (okb x1 9) (chk (okb x1 9) (cap (mX7_isCrossing (rd M (k0 + 6) (x1).toNatClampNeg) (rd M (k0 + 8) (x1).toNatClampNeg) x2 x3 M) (fun r4 => ite2 (r4 = 0) (some (0 : Int32)) (chk (okb x1 9) (chk (okb x1 9) (cap (mX7_isCrossing (rd M (k0 + 7) (x1).toNatClampNeg) (rd M (k0 + 9) (x1).toNatClampNeg) x4 x5 M) (fun r10 => ite2 (r10 = 0) (some (0 : Int32)) (some (1 : Int32)))))))))
set_option maxHeartbeats 4000000 in
set_option maxRecDepth 100000 in
theorem tX7_isInside (l : Launch) {G : GT} {kd : Nat → Nat × Nat} {ad : Nat → Nat} {k0 : Nat} (hk0 : kModel kd k0) {x1 : Int32} {x2 : Int32} {x3 : Int32} {x4 : Int32} {x5 : Int32} {M : Mem} {vo : Int32} (hf : mX7_isInside k0 x1 x2 x3 x4 x5 M = some vo) (n : Nat) : Met l yX7_isInside (Cond.code yX7_isInside cX7_isInside 6 (some .boolean) :: WA) (rmO 1 0 0) (Pg G kd ad n [.ref (ad k0), .int x1, .int x2, .int x3, .int x4, .int x5] M) (Qg G kd ad n M (some (.int vo))) 0 0 (AS kd ad n) := by
  refine g_body (own := RX7) (by decide) rfl ?_ (Nat.le_of_ble_eq_true rfl)
  intro p e s m args below meth c C _ H locs ls hI hl
  obtain ⟨hx, hb, hml, hr, hown, hts, hlk, hK, hap, hsx⟩ := id C
  have hl : lv_has ls 6 [(0, .ref (ad k0)), (1, .int x1), (2, .int x2), (3, .int x3), (4, .int x4), (5, .int x5)] := hl
  unfold mX7_isInside at hf
  refine lv_aload_n hx hb (dc tbX7_isInside_k 0 rfl) rfl (lv_at hl 0 rfl) ?_
  refine gg7_17 hx hb hts hown hK hI hk0.1 q_t7_93 (dc tbX7_isInside_k 1 rfl) ?_
  refine lv_iload_n hx hb (dc tbX7_isInside_k 2 rfl) rfl (lv_at hl 1 rfl) ?_
  obtain ⟨h1, hf⟩ := chk_s hf
  refine g_iald hx hb hK hI hk0.2.2.2.2.2.2.1 (okb_in h1) (dc tbX7_isInside_k 3 rfl) ?_
  refine lv_aload_n hx hb (dc tbX7_isInside_k 4 rfl) rfl (lv_at hl 0 rfl) ?_
  refine gg7_19 hx hb hts hown hK hI hk0.1 q_t7_95 (dc tbX7_isInside_k 5 rfl) ?_
  refine lv_iload_n hx hb (dc tbX7_isInside_k 6 rfl) rfl (lv_at hl 1 rfl) ?_
  obtain ⟨h2, hf⟩ := chk_s hf
  refine g_iald hx hb hK hI hk0.2.2.2.2.2.2.2.2.1 (okb_in h2) (dc tbX7_isInside_k 7 rfl) ?_
  refine lv_iload_n hx hb (dc tbX7_isInside_k 8 rfl) rfl (lv_at hl 2 rfl) ?_
  refine lv_iload_n hx hb (dc tbX7_isInside_k 9 rfl) rfl (lv_at hl 3 rfl) ?_
  obtain ⟨r4, q3, hf⟩ := cap_s hf
  refine g_callSi hx hb hml hown hts hK hap hsx hI (tX7_isCrossing l  q3 H.size) cs_X7_isCrossing q_t9_33 rfl rfl ⟨Nat.le_of_ble_eq_true rfl, Nat.le_of_ble_eq_true rfl⟩ rfl hl.1 rfl (Nat.le_of_ble_eq_true rfl) (dc tbX7_isInside_k 10 rfl) ⟨Nat.le_of_ble_eq_true rfl, Nat.le_of_ble_eq_true rfl⟩ (fun H locs hI => ?_)
  refine lv_if_eq (tgt := 46) hx hb (dc tbX7_isInside_k 11 rfl) rfl (fun c6 => ?_) (fun c6 => ?_)
  · have hf := ite_t c6 hf
    refine lv_iconst (v := 0) hx hb (dc tbX7_isInside_k 26 rfl) ic_0 ?_
    cases hf
    exact g_zret hx hb hr hlk hI rfl (dc tbX7_isInside_k 27 rfl)
  · have hf := ite_f c6 hf
    refine lv_aload_n hx hb (dc tbX7_isInside_k 12 rfl) rfl (lv_at hl 0 rfl) ?_
    refine gg7_18 hx hb hts hown hK hI hk0.1 q_t7_94 (dc tbX7_isInside_k 13 rfl) ?_
    refine lv_iload_n hx hb (dc tbX7_isInside_k 14 rfl) rfl (lv_at hl 1 rfl) ?_
    obtain ⟨h7, hf⟩ := chk_s hf
    refine g_iald hx hb hK hI hk0.2.2.2.2.2.2.2.1 (okb_in h7) (dc tbX7_isInside_k 15 rfl) ?_
    refine lv_aload_n hx hb (dc tbX7_isInside_k 16 rfl) rfl (lv_at hl 0 rfl) ?_
    refine gg7_20 hx hb hts hown hK hI hk0.1 q_t7_96 (dc tbX7_isInside_k 17 rfl) ?_
    refine lv_iload_n hx hb (dc tbX7_isInside_k 18 rfl) rfl (lv_at hl 1 rfl) ?_
    obtain ⟨h8, hf⟩ := chk_s hf
    refine g_iald hx hb hK hI hk0.2.2.2.2.2.2.2.2.2.1 (okb_in h8) (dc tbX7_isInside_k 19 rfl) ?_
    refine lv_iload hx hb (dc tbX7_isInside_k 20 rfl) (lv_at hl 4 rfl) ?_
    refine lv_iload hx hb (dc tbX7_isInside_k 21 rfl) (lv_at hl 5 rfl) ?_
    obtain ⟨r10, q9, hf⟩ := cap_s hf
    refine g_callSi hx hb hml hown hts hK hap hsx hI (tX7_isCrossing l  q9 H.size) cs_X7_isCrossing q_t9_33 rfl rfl ⟨Nat.le_of_ble_eq_true rfl, Nat.le_of_ble_eq_true rfl⟩ rfl hl.1 rfl (Nat.le_of_ble_eq_true rfl) (dc tbX7_isInside_k 22 rfl) ⟨Nat.le_of_ble_eq_true rfl, Nat.le_of_ble_eq_true rfl⟩ (fun H locs hI => ?_)
    refine lv_if_eq (tgt := 46) hx hb (dc tbX7_isInside_k 23 rfl) rfl (fun c12 => ?_) (fun c12 => ?_)
    · have hf := ite_t c12 hf
      refine lv_iconst (v := 0) hx hb (dc tbX7_isInside_k 26 rfl) ic_0 ?_
      cases hf
      exact g_zret hx hb hr hlk hI rfl (dc tbX7_isInside_k 27 rfl)
    · have hf := ite_f c12 hf
      refine lv_iconst (v := 1) hx hb (dc tbX7_isInside_k 24 rfl) ic_1 ?_
      refine lv_goto (tgt := 47) hx hb (dc tbX7_isInside_k 25 rfl) rfl ?_
      cases hf
      exact g_zret hx hb hr hlk hI rfl (dc tbX7_isInside_k 27 rfl)
theorem cv_X7_isInside : cvF RX7 yX7_isInside cX7_isInside 6 (some .boolean) 5 := ⟨q_t9_31, q_s6_0, q_t1_11, q_t9_32, by decide +kernel⟩
def mX7_toolOf (k0 : Nat) (x1 : Int32) (x2 : Int32) (M : Mem) : Option Int32 := chk (okb (((39 : Int32) + ((2 : Int32) * x1)) + x2) 86) (some (rd M (k0 + 1) ((((39 : Int32) + ((2 : Int32) * x1)) + x2)).toNatClampNeg))
set_option maxHeartbeats 4000000 in
set_option maxRecDepth 100000 in
theorem tX7_toolOf (l : Launch) {G : GT} {kd : Nat → Nat × Nat} {ad : Nat → Nat} {k0 : Nat} (hk0 : kModel kd k0) {x1 : Int32} {x2 : Int32} {M : Mem} {vo : Int32} (hf : mX7_toolOf k0 x1 x2 M = some vo) (n : Nat) : Met l yX7_toolOf (Cond.code yX7_toolOf cX7_toolOf 3 (some .int) :: WA) (rmO 0 0 0) (Pg G kd ad n [.ref (ad k0), .int x1, .int x2] M) (Qg G kd ad n M (some (.int vo))) 0 0 (AS kd ad n) := by
  refine g_body (own := RX7) (by decide) rfl ?_ (Nat.le_of_ble_eq_true rfl)
  intro p e s m args below meth c C _ H locs ls hI hl
  obtain ⟨hx, hb, hml, hr, hown, hts, hlk, hK, hap, hsx⟩ := id C
  have hl : lv_has ls 3 [(0, .ref (ad k0)), (1, .int x1), (2, .int x2)] := hl
  unfold mX7_toolOf at hf
  refine lv_aload_n hx hb (dc tbX7_toolOf_k 0 rfl) rfl (lv_at hl 0 rfl) ?_
  refine gg7_0 hx hb hts hown hK hI hk0.1 q_t7_76 (dc tbX7_toolOf_k 1 rfl) ?_
  refine lv_bipush (v := 39) hx hb (dc tbX7_toolOf_k 2 rfl) bp_39 ?_
  refine lv_iconst (v := 2) hx hb (dc tbX7_toolOf_k 3 rfl) ic_2 ?_
  refine lv_iload_n hx hb (dc tbX7_toolOf_k 4 rfl) rfl (lv_at hl 1 rfl) ?_
  refine lv_imul hx hb (dc tbX7_toolOf_k 5 rfl) ?_
  refine lv_iadd hx hb (dc tbX7_toolOf_k 6 rfl) ?_
  refine lv_iload_n hx hb (dc tbX7_toolOf_k 7 rfl) rfl (lv_at hl 2 rfl) ?_
  refine lv_iadd hx hb (dc tbX7_toolOf_k 8 rfl) ?_
  obtain ⟨h1, hf⟩ := chk_s hf
  refine g_iald hx hb hK hI hk0.2.1 (okb_in h1) (dc tbX7_toolOf_k 9 rfl) ?_
  cases hf
  exact g_iret hx hb hr hlk hI (dc tbX7_toolOf_k 10 rfl)
theorem cv_X7_toolOf : cvF RX7 yX7_toolOf cX7_toolOf 3 (some .int) 2 := ⟨q_t8_235, q_s5_7, q_t1_11, q_t8_236, by decide +kernel⟩
def mX7_hitsBeam (k0 : Nat) (x1 : Int32) (M : Mem) : Option Int32 := cap (mX7_toolOf k0 (0 : Int32) (0 : Int32) M) (fun r2 => cap (mX7_toolOf k0 (0 : Int32) (1 : Int32) M) (fun r5 => cap (mX7_isInside k0 x1 (-r2) (0 : Int32) (0 : Int32) r5 M) (fun r8 => chk (isB r8) (some r8))))
set_option maxHeartbeats 4000000 in
set_option maxRecDepth 100000 in
theorem tX7_hitsBeam (l : Launch) {G : GT} {kd : Nat → Nat × Nat} {ad : Nat → Nat} {k0 : Nat} (hk0 : kModel kd k0) {x1 : Int32} {M : Mem} {vo : Int32} (hf : mX7_hitsBeam k0 x1 M = some vo) (n : Nat) : Met l yX7_hitsBeam (Cond.code yX7_hitsBeam cX7_hitsBeam 2 (some .boolean) :: WA) (rmO 2 0 0) (Pg G kd ad n [.ref (ad k0), .int x1] M) (Qg G kd ad n M (some (.int vo))) 0 0 (AS kd ad n) := by
  refine g_body (own := RX7) (by decide) rfl ?_ (Nat.le_of_ble_eq_true rfl)
  intro p e s m args below meth c C _ H locs ls hI hl
  obtain ⟨hx, hb, hml, hr, hown, hts, hlk, hK, hap, hsx⟩ := id C
  have hl : lv_has ls 2 [(0, .ref (ad k0)), (1, .int x1)] := hl
  unfold mX7_hitsBeam at hf
  refine lv_aload_n hx hb (dc tbX7_hitsBeam_k 0 rfl) rfl (lv_at hl 0 rfl) ?_
  refine lv_iload_n hx hb (dc tbX7_hitsBeam_k 1 rfl) rfl (lv_at hl 1 rfl) ?_
  refine lv_aload_n hx hb (dc tbX7_hitsBeam_k 2 rfl) rfl (lv_at hl 0 rfl) ?_
  refine lv_iconst (v := 0) hx hb (dc tbX7_hitsBeam_k 3 rfl) ic_0 ?_
  refine lv_iconst (v := 0) hx hb (dc tbX7_hitsBeam_k 4 rfl) ic_0 ?_
  obtain ⟨r2, q1, hf⟩ := cap_s hf
  refine g_callVi hx hb hml hown hts hK hap hsx hI (tX7_toolOf l hk0 q1 H.size) cv_X7_toolOf q_t8_233 rfl rfl ⟨Nat.le_of_ble_eq_true rfl, Nat.le_of_ble_eq_true rfl⟩ hk0.1 (by simp) rfl rfl rfl hl.1 rfl (Nat.le_of_ble_eq_true rfl) (dc tbX7_hitsBeam_k 5 rfl) ⟨Nat.le_of_ble_eq_true rfl, Nat.le_of_ble_eq_true rfl⟩ (fun H locs hI => ?_)
  refine lv_ineg hx hb (dc tbX7_hitsBeam_k 6 rfl) ?_
  refine lv_iconst (v := 0) hx hb (dc tbX7_hitsBeam_k 7 rfl) ic_0 ?_
  refine lv_iconst (v := 0) hx hb (dc tbX7_hitsBeam_k 8 rfl) ic_0 ?_
  refine lv_aload_n hx hb (dc tbX7_hitsBeam_k 9 rfl) rfl (lv_at hl 0 rfl) ?_
  refine lv_iconst (v := 0) hx hb (dc tbX7_hitsBeam_k 10 rfl) ic_0 ?_
  refine lv_iconst (v := 1) hx hb (dc tbX7_hitsBeam_k 11 rfl) ic_1 ?_
  obtain ⟨r5, q4, hf⟩ := cap_s hf
  refine g_callVi hx hb hml hown hts hK hap hsx hI (tX7_toolOf l hk0 q4 H.size) cv_X7_toolOf q_t8_233 rfl rfl ⟨Nat.le_of_ble_eq_true rfl, Nat.le_of_ble_eq_true rfl⟩ hk0.1 (by simp) rfl rfl rfl hl.1 rfl (Nat.le_of_ble_eq_true rfl) (dc tbX7_hitsBeam_k 12 rfl) ⟨Nat.le_of_ble_eq_true rfl, Nat.le_of_ble_eq_true rfl⟩ (fun H locs hI => ?_)
  obtain ⟨r8, q7, hf⟩ := cap_s hf
  refine g_callVi hx hb hml hown hts hK hap hsx hI (tX7_isInside l hk0 q7 H.size) cv_X7_isInside q_t9_29 rfl rfl ⟨Nat.le_of_ble_eq_true rfl, Nat.le_of_ble_eq_true rfl⟩ hk0.1 (by simp) rfl rfl rfl hl.1 rfl (Nat.le_of_ble_eq_true rfl) (dc tbX7_hitsBeam_k 13 rfl) ⟨Nat.le_of_ble_eq_true rfl, Nat.le_of_ble_eq_true rfl⟩ (fun H locs hI => ?_)
  obtain ⟨h10, hf⟩ := chk_s hf
  cases hf
  exact g_zret hx hb hr hlk hI (isB_n h10) (dc tbX7_hitsBeam_k 14 rfl)
theorem cv_X7_hitsBeam : cvF RX7 yX7_hitsBeam cX7_hitsBeam 2 (some .boolean) 1 := ⟨q_t9_27, q_s5_15, q_t1_11, q_t9_28, by decide +kernel⟩
def mX7_hitsTable (k0 : Nat) (x1 : Int32) (M : Mem) : Option Int32 := cap (mX7_toolOf k0 (1 : Int32) (0 : Int32) M) (fun r2 => cap (mX7_toolOf k0 (1 : Int32) (1 : Int32) M) (fun r5 => cap (mX7_isInside k0 x1 (-r2) (0 : Int32) (-r5) (0 : Int32) M) (fun r8 => chk (isB r8) (some r8))))
set_option maxHeartbeats 4000000 in
set_option maxRecDepth 100000 in
theorem tX7_hitsTable (l : Launch) {G : GT} {kd : Nat → Nat × Nat} {ad : Nat → Nat} {k0 : Nat} (hk0 : kModel kd k0) {x1 : Int32} {M : Mem} {vo : Int32} (hf : mX7_hitsTable k0 x1 M = some vo) (n : Nat) : Met l yX7_hitsTable (Cond.code yX7_hitsTable cX7_hitsTable 2 (some .boolean) :: WA) (rmO 2 0 0) (Pg G kd ad n [.ref (ad k0), .int x1] M) (Qg G kd ad n M (some (.int vo))) 0 0 (AS kd ad n) := by
  refine g_body (own := RX7) (by decide) rfl ?_ (Nat.le_of_ble_eq_true rfl)
  intro p e s m args below meth c C _ H locs ls hI hl
  obtain ⟨hx, hb, hml, hr, hown, hts, hlk, hK, hap, hsx⟩ := id C
  have hl : lv_has ls 2 [(0, .ref (ad k0)), (1, .int x1)] := hl
  unfold mX7_hitsTable at hf
  refine lv_aload_n hx hb (dc tbX7_hitsTable_k 0 rfl) rfl (lv_at hl 0 rfl) ?_
  refine lv_iload_n hx hb (dc tbX7_hitsTable_k 1 rfl) rfl (lv_at hl 1 rfl) ?_
  refine lv_aload_n hx hb (dc tbX7_hitsTable_k 2 rfl) rfl (lv_at hl 0 rfl) ?_
  refine lv_iconst (v := 1) hx hb (dc tbX7_hitsTable_k 3 rfl) ic_1 ?_
  refine lv_iconst (v := 0) hx hb (dc tbX7_hitsTable_k 4 rfl) ic_0 ?_
  obtain ⟨r2, q1, hf⟩ := cap_s hf
  refine g_callVi hx hb hml hown hts hK hap hsx hI (tX7_toolOf l hk0 q1 H.size) cv_X7_toolOf q_t8_233 rfl rfl ⟨Nat.le_of_ble_eq_true rfl, Nat.le_of_ble_eq_true rfl⟩ hk0.1 (by simp) rfl rfl rfl hl.1 rfl (Nat.le_of_ble_eq_true rfl) (dc tbX7_hitsTable_k 5 rfl) ⟨Nat.le_of_ble_eq_true rfl, Nat.le_of_ble_eq_true rfl⟩ (fun H locs hI => ?_)
  refine lv_ineg hx hb (dc tbX7_hitsTable_k 6 rfl) ?_
  refine lv_iconst (v := 0) hx hb (dc tbX7_hitsTable_k 7 rfl) ic_0 ?_
  refine lv_aload_n hx hb (dc tbX7_hitsTable_k 8 rfl) rfl (lv_at hl 0 rfl) ?_
  refine lv_iconst (v := 1) hx hb (dc tbX7_hitsTable_k 9 rfl) ic_1 ?_
  refine lv_iconst (v := 1) hx hb (dc tbX7_hitsTable_k 10 rfl) ic_1 ?_
  obtain ⟨r5, q4, hf⟩ := cap_s hf
  refine g_callVi hx hb hml hown hts hK hap hsx hI (tX7_toolOf l hk0 q4 H.size) cv_X7_toolOf q_t8_233 rfl rfl ⟨Nat.le_of_ble_eq_true rfl, Nat.le_of_ble_eq_true rfl⟩ hk0.1 (by simp) rfl rfl rfl hl.1 rfl (Nat.le_of_ble_eq_true rfl) (dc tbX7_hitsTable_k 11 rfl) ⟨Nat.le_of_ble_eq_true rfl, Nat.le_of_ble_eq_true rfl⟩ (fun H locs hI => ?_)
  refine lv_ineg hx hb (dc tbX7_hitsTable_k 12 rfl) ?_
  refine lv_iconst (v := 0) hx hb (dc tbX7_hitsTable_k 13 rfl) ic_0 ?_
  obtain ⟨r8, q7, hf⟩ := cap_s hf
  refine g_callVi hx hb hml hown hts hK hap hsx hI (tX7_isInside l hk0 q7 H.size) cv_X7_isInside q_t9_29 rfl rfl ⟨Nat.le_of_ble_eq_true rfl, Nat.le_of_ble_eq_true rfl⟩ hk0.1 (by simp) rfl rfl rfl hl.1 rfl (Nat.le_of_ble_eq_true rfl) (dc tbX7_hitsTable_k 14 rfl) ⟨Nat.le_of_ble_eq_true rfl, Nat.le_of_ble_eq_true rfl⟩ (fun H locs hI => ?_)
  obtain ⟨h10, hf⟩ := chk_s hf
  cases hf
  exact g_zret hx hb hr hlk hI (isB_n h10) (dc tbX7_hitsTable_k 15 rfl)
theorem cv_X7_hitsTable : cvF RX7 yX7_hitsTable cX7_hitsTable 2 (some .boolean) 1 := ⟨q_t9_38, q_s6_1, q_t1_11, q_t9_39, by decide +kernel⟩
def mX7_hitsWing (k0 : Nat) (x1 : Int32) (M : Mem) : Option Int32 := cap (mX7_toolOf k0 (2 : Int32) (0 : Int32) M) (fun r2 => cap (mX7_toolOf k0 (2 : Int32) (1 : Int32) M) (fun r5 => cap (mX7_isInside k0 x1 (0 : Int32) r2 (0 : Int32) r5 M) (fun r8 => chk (isB r8) (some r8))))
set_option maxHeartbeats 4000000 in
set_option maxRecDepth 100000 in
theorem tX7_hitsWing (l : Launch) {G : GT} {kd : Nat → Nat × Nat} {ad : Nat → Nat} {k0 : Nat} (hk0 : kModel kd k0) {x1 : Int32} {M : Mem} {vo : Int32} (hf : mX7_hitsWing k0 x1 M = some vo) (n : Nat) : Met l yX7_hitsWing (Cond.code yX7_hitsWing cX7_hitsWing 2 (some .boolean) :: WA) (rmO 2 0 0) (Pg G kd ad n [.ref (ad k0), .int x1] M) (Qg G kd ad n M (some (.int vo))) 0 0 (AS kd ad n) := by
  refine g_body (own := RX7) (by decide) rfl ?_ (Nat.le_of_ble_eq_true rfl)
  intro p e s m args below meth c C _ H locs ls hI hl
  obtain ⟨hx, hb, hml, hr, hown, hts, hlk, hK, hap, hsx⟩ := id C
  have hl : lv_has ls 2 [(0, .ref (ad k0)), (1, .int x1)] := hl
  unfold mX7_hitsWing at hf
  refine lv_aload_n hx hb (dc tbX7_hitsWing_k 0 rfl) rfl (lv_at hl 0 rfl) ?_
  refine lv_iload_n hx hb (dc tbX7_hitsWing_k 1 rfl) rfl (lv_at hl 1 rfl) ?_
  refine lv_iconst (v := 0) hx hb (dc tbX7_hitsWing_k 2 rfl) ic_0 ?_
  refine lv_aload_n hx hb (dc tbX7_hitsWing_k 3 rfl) rfl (lv_at hl 0 rfl) ?_
  refine lv_iconst (v := 2) hx hb (dc tbX7_hitsWing_k 4 rfl) ic_2 ?_
  refine lv_iconst (v := 0) hx hb (dc tbX7_hitsWing_k 5 rfl) ic_0 ?_
  obtain ⟨r2, q1, hf⟩ := cap_s hf
  refine g_callVi hx hb hml hown hts hK hap hsx hI (tX7_toolOf l hk0 q1 H.size) cv_X7_toolOf q_t8_233 rfl rfl ⟨Nat.le_of_ble_eq_true rfl, Nat.le_of_ble_eq_true rfl⟩ hk0.1 (by simp) rfl rfl rfl hl.1 rfl (Nat.le_of_ble_eq_true rfl) (dc tbX7_hitsWing_k 6 rfl) ⟨Nat.le_of_ble_eq_true rfl, Nat.le_of_ble_eq_true rfl⟩ (fun H locs hI => ?_)
  refine lv_iconst (v := 0) hx hb (dc tbX7_hitsWing_k 7 rfl) ic_0 ?_
  refine lv_aload_n hx hb (dc tbX7_hitsWing_k 8 rfl) rfl (lv_at hl 0 rfl) ?_
  refine lv_iconst (v := 2) hx hb (dc tbX7_hitsWing_k 9 rfl) ic_2 ?_
  refine lv_iconst (v := 1) hx hb (dc tbX7_hitsWing_k 10 rfl) ic_1 ?_
  obtain ⟨r5, q4, hf⟩ := cap_s hf
  refine g_callVi hx hb hml hown hts hK hap hsx hI (tX7_toolOf l hk0 q4 H.size) cv_X7_toolOf q_t8_233 rfl rfl ⟨Nat.le_of_ble_eq_true rfl, Nat.le_of_ble_eq_true rfl⟩ hk0.1 (by simp) rfl rfl rfl hl.1 rfl (Nat.le_of_ble_eq_true rfl) (dc tbX7_hitsWing_k 11 rfl) ⟨Nat.le_of_ble_eq_true rfl, Nat.le_of_ble_eq_true rfl⟩ (fun H locs hI => ?_)
  obtain ⟨r8, q7, hf⟩ := cap_s hf
  refine g_callVi hx hb hml hown hts hK hap hsx hI (tX7_isInside l hk0 q7 H.size) cv_X7_isInside q_t9_29 rfl rfl ⟨Nat.le_of_ble_eq_true rfl, Nat.le_of_ble_eq_true rfl⟩ hk0.1 (by simp) rfl rfl rfl hl.1 rfl (Nat.le_of_ble_eq_true rfl) (dc tbX7_hitsWing_k 12 rfl) ⟨Nat.le_of_ble_eq_true rfl, Nat.le_of_ble_eq_true rfl⟩ (fun H locs hI => ?_)
  obtain ⟨h10, hf⟩ := chk_s hf
  cases hf
  exact g_zret hx hb hr hlk hI (isB_n h10) (dc tbX7_hitsWing_k 13 rfl)
theorem cv_X7_hitsWing : cvF RX7 yX7_hitsWing cX7_hitsWing 2 (some .boolean) 1 := ⟨q_t9_42, q_s6_2, q_t1_11, q_t9_43, by decide +kernel⟩
def mX7_hits (k0 : Nat) (x1 : Int32) (x2 : Int32) (M : Mem) : Option Int32 := cap (mX7_hitsBeam k0 x1 M) (fun r2 => ite2 (r2 = 0) (cap (mX7_hitsTable k0 x1 M) (fun r6 => ite2 (r6 = 0) (ite2 (x2 = 0) (some (0 : Int32)) (cap (mX7_hitsWing k0 x1 M) (fun r11 => ite2 (r11 = 0) (some (0 : Int32)) (some (1 : Int32))))) (some (1 : Int32)))) (some (1 : Int32)))
set_option maxHeartbeats 4000000 in
set_option maxRecDepth 100000 in
theorem tX7_hits (l : Launch) {G : GT} {kd : Nat → Nat × Nat} {ad : Nat → Nat} {k0 : Nat} (hk0 : kModel kd k0) {x1 : Int32} {x2 : Int32} {M : Mem} {vo : Int32} (hf : mX7_hits k0 x1 x2 M = some vo) (n : Nat) : Met l yX7_hits (Cond.code yX7_hits cX7_hits 3 (some .boolean) :: WA) (rmO 3 0 0) (Pg G kd ad n [.ref (ad k0), .int x1, .int x2] M) (Qg G kd ad n M (some (.int vo))) 0 0 (AS kd ad n) := by
  refine g_body (own := RX7) (by decide) rfl ?_ (Nat.le_of_ble_eq_true rfl)
  intro p e s m args below meth c C _ H locs ls hI hl
  obtain ⟨hx, hb, hml, hr, hown, hts, hlk, hK, hap, hsx⟩ := id C
  have hl : lv_has ls 3 [(0, .ref (ad k0)), (1, .int x1), (2, .int x2)] := hl
  unfold mX7_hits at hf
  refine lv_aload_n hx hb (dc tbX7_hits_k 0 rfl) rfl (lv_at hl 0 rfl) ?_
  refine lv_iload_n hx hb (dc tbX7_hits_k 1 rfl) rfl (lv_at hl 1 rfl) ?_
  obtain ⟨r2, q1, hf⟩ := cap_s hf
  refine g_callVi hx hb hml hown hts hK hap hsx hI (tX7_hitsBeam l hk0 q1 H.size) cv_X7_hitsBeam q_t9_25 rfl rfl ⟨Nat.le_of_ble_eq_true rfl, Nat.le_of_ble_eq_true rfl⟩ hk0.1 (by simp) rfl rfl rfl hl.1 rfl (Nat.le_of_ble_eq_true rfl) (dc tbX7_hits_k 2 rfl) ⟨Nat.le_of_ble_eq_true rfl, Nat.le_of_ble_eq_true rfl⟩ (fun H locs hI => ?_)
  refine lv_if_ne (tgt := 16) hx hb (dc tbX7_hits_k 3 rfl) rfl (fun c4 => ?_) (fun c4 => ?_)
  · have hf := ite_f c4 hf
    refine lv_iconst (v := 1) hx hb (dc tbX7_hits_k 8 rfl) ic_1 ?_
    cases hf
    exact g_zret hx hb hr hlk hI rfl (dc tbX7_hits_k 9 rfl)
  · have hf := ite_t c4 hf
    refine lv_aload_n hx hb (dc tbX7_hits_k 4 rfl) rfl (lv_at hl 0 rfl) ?_
    refine lv_iload_n hx hb (dc tbX7_hits_k 5 rfl) rfl (lv_at hl 1 rfl) ?_
    obtain ⟨r6, q5, hf⟩ := cap_s hf
    refine g_callVi hx hb hml hown hts hK hap hsx hI (tX7_hitsTable l hk0 q5 H.size) cv_X7_hitsTable q_t9_36 rfl rfl ⟨Nat.le_of_ble_eq_true rfl, Nat.le_of_ble_eq_true rfl⟩ hk0.1 (by simp) rfl rfl rfl hl.1 rfl (Nat.le_of_ble_eq_true rfl) (dc tbX7_hits_k 6 rfl) ⟨Nat.le_of_ble_eq_true rfl, Nat.le_of_ble_eq_true rfl⟩ (fun H locs hI => ?_)
    refine lv_if_eq (tgt := 18) hx hb (dc tbX7_hits_k 7 rfl) rfl (fun c8 => ?_) (fun c8 => ?_)
    · have hf := ite_t c8 hf
      refine lv_iload_n hx hb (dc tbX7_hits_k 10 rfl) rfl (lv_at hl 2 rfl) ?_
      refine lv_if_eq (tgt := 34) hx hb (dc tbX7_hits_k 11 rfl) rfl (fun c9 => ?_) (fun c9 => ?_)
      · have hf := ite_t c9 hf
        refine lv_iconst (v := 0) hx hb (dc tbX7_hits_k 18 rfl) ic_0 ?_
        cases hf
        exact g_zret hx hb hr hlk hI rfl (dc tbX7_hits_k 19 rfl)
      · have hf := ite_f c9 hf
        refine lv_aload_n hx hb (dc tbX7_hits_k 12 rfl) rfl (lv_at hl 0 rfl) ?_
        refine lv_iload_n hx hb (dc tbX7_hits_k 13 rfl) rfl (lv_at hl 1 rfl) ?_
        obtain ⟨r11, q10, hf⟩ := cap_s hf
        refine g_callVi hx hb hml hown hts hK hap hsx hI (tX7_hitsWing l hk0 q10 H.size) cv_X7_hitsWing q_t9_40 rfl rfl ⟨Nat.le_of_ble_eq_true rfl, Nat.le_of_ble_eq_true rfl⟩ hk0.1 (by simp) rfl rfl rfl hl.1 rfl (Nat.le_of_ble_eq_true rfl) (dc tbX7_hits_k 14 rfl) ⟨Nat.le_of_ble_eq_true rfl, Nat.le_of_ble_eq_true rfl⟩ (fun H locs hI => ?_)
        refine lv_if_eq (tgt := 34) hx hb (dc tbX7_hits_k 15 rfl) rfl (fun c13 => ?_) (fun c13 => ?_)
        · have hf := ite_t c13 hf
          refine lv_iconst (v := 0) hx hb (dc tbX7_hits_k 18 rfl) ic_0 ?_
          cases hf
          exact g_zret hx hb hr hlk hI rfl (dc tbX7_hits_k 19 rfl)
        · have hf := ite_f c13 hf
          refine lv_iconst (v := 1) hx hb (dc tbX7_hits_k 16 rfl) ic_1 ?_
          refine lv_goto (tgt := 35) hx hb (dc tbX7_hits_k 17 rfl) rfl ?_
          cases hf
          exact g_zret hx hb hr hlk hI rfl (dc tbX7_hits_k 19 rfl)
    · have hf := ite_f c8 hf
      refine lv_iconst (v := 1) hx hb (dc tbX7_hits_k 8 rfl) ic_1 ?_
      cases hf
      exact g_zret hx hb hr hlk hI rfl (dc tbX7_hits_k 9 rfl)
theorem cv_X7_hits : cvF RX7 yX7_hits cX7_hits 3 (some .boolean) 2 := ⟨q_t9_23, q_s5_14, q_t1_11, q_t9_24, by decide +kernel⟩
def mX7_overlap (x0 : Int32) (x1 : Int32) (x2 : Int32) (x3 : Int32) (M : Mem) : Option Int32 := ite2 ((imin (imax x0 x1) (imax x2 x3)) < (imax (imin x0 x1) (imin x2 x3))) (some (0 : Int32)) (some (1 : Int32))
set_option maxHeartbeats 4000000 in
set_option maxRecDepth 100000 in
theorem tX7_overlap (l : Launch) {G : GT} {kd : Nat → Nat × Nat} {ad : Nat → Nat}  {x0 : Int32} {x1 : Int32} {x2 : Int32} {x3 : Int32} {M : Mem} {vo : Int32} (hf : mX7_overlap  x0 x1 x2 x3 M = some vo) (n : Nat) : Met l yX7_overlap (Cond.code yX7_overlap cX7_overlap 4 (some .boolean) :: WA) (rmO 0 0 0) (Pg G kd ad n [.int x0, .int x1, .int x2, .int x3] M) (Qg G kd ad n M (some (.int vo))) 0 0 (AS kd ad n) := by
  refine g_body (own := RX7) (by decide) rfl ?_ (Nat.le_of_ble_eq_true rfl)
  intro p e s m args below meth c C _ H locs ls hI hl
  obtain ⟨hx, hb, hml, hr, hown, hts, hlk, hK, hap, hsx⟩ := id C
  have hl : lv_has ls 4 [(0, .int x0), (1, .int x1), (2, .int x2), (3, .int x3)] := hl
  unfold mX7_overlap at hf
  refine lv_iload_n hx hb (dc tbX7_overlap_k 0 rfl) rfl (lv_at hl 0 rfl) ?_
  refine lv_iload_n hx hb (dc tbX7_overlap_k 1 rfl) rfl (lv_at hl 1 rfl) ?_
  refine va_mmin hx hb (hml.trans hl.1.symm) hown (hts _ q_t8_165) (hts _ q_t2_200) (hts _ q_t1_22) (hts _ q_t2_201) (Nat.le_of_ble_eq_true rfl) (Nat.le_of_ble_eq_true rfl) (Nat.le_of_ble_eq_true rfl) (Nat.le_of_ble_eq_true rfl) (dc tbX7_overlap_k 2 rfl) ?_
  refine lv_et (show (if _ then _ else _) = (imin x0 x1) from rfl) ?_
  refine lv_iload_n hx hb (dc tbX7_overlap_k 3 rfl) rfl (lv_at hl 2 rfl) ?_
  refine lv_iload_n hx hb (dc tbX7_overlap_k 4 rfl) rfl (lv_at hl 3 rfl) ?_
  refine va_mmin hx hb (hml.trans hl.1.symm) hown (hts _ q_t8_165) (hts _ q_t2_200) (hts _ q_t1_22) (hts _ q_t2_201) (Nat.le_of_ble_eq_true rfl) (Nat.le_of_ble_eq_true rfl) (Nat.le_of_ble_eq_true rfl) (Nat.le_of_ble_eq_true rfl) (dc tbX7_overlap_k 5 rfl) ?_
  refine lv_et (show (if _ then _ else _) = (imin x2 x3) from rfl) ?_
  refine va_mmax hx hb (hml.trans hl.1.symm) hown (hts _ q_t8_166) (hts _ q_t2_203) (hts _ q_t1_22) (hts _ q_t2_204) (Nat.le_of_ble_eq_true rfl) (Nat.le_of_ble_eq_true rfl) (Nat.le_of_ble_eq_true rfl) (Nat.le_of_ble_eq_true rfl) (dc tbX7_overlap_k 6 rfl) ?_
  refine lv_et (show (if _ then _ else _) = (imax (imin x0 x1) (imin x2 x3)) from rfl) ?_
  refine lv_iload_n hx hb (dc tbX7_overlap_k 7 rfl) rfl (lv_at hl 0 rfl) ?_
  refine lv_iload_n hx hb (dc tbX7_overlap_k 8 rfl) rfl (lv_at hl 1 rfl) ?_
  refine va_mmax hx hb (hml.trans hl.1.symm) hown (hts _ q_t8_166) (hts _ q_t2_203) (hts _ q_t1_22) (hts _ q_t2_204) (Nat.le_of_ble_eq_true rfl) (Nat.le_of_ble_eq_true rfl) (Nat.le_of_ble_eq_true rfl) (Nat.le_of_ble_eq_true rfl) (dc tbX7_overlap_k 9 rfl) ?_
  refine lv_et (show (if _ then _ else _) = (imax x0 x1) from rfl) ?_
  refine lv_iload_n hx hb (dc tbX7_overlap_k 10 rfl) rfl (lv_at hl 2 rfl) ?_
  refine lv_iload_n hx hb (dc tbX7_overlap_k 11 rfl) rfl (lv_at hl 3 rfl) ?_
  refine va_mmax hx hb (hml.trans hl.1.symm) hown (hts _ q_t8_166) (hts _ q_t2_203) (hts _ q_t1_22) (hts _ q_t2_204) (Nat.le_of_ble_eq_true rfl) (Nat.le_of_ble_eq_true rfl) (Nat.le_of_ble_eq_true rfl) (Nat.le_of_ble_eq_true rfl) (dc tbX7_overlap_k 12 rfl) ?_
  refine lv_et (show (if _ then _ else _) = (imax x2 x3) from rfl) ?_
  refine va_mmin hx hb (hml.trans hl.1.symm) hown (hts _ q_t8_165) (hts _ q_t2_200) (hts _ q_t1_22) (hts _ q_t2_201) (Nat.le_of_ble_eq_true rfl) (Nat.le_of_ble_eq_true rfl) (Nat.le_of_ble_eq_true rfl) (Nat.le_of_ble_eq_true rfl) (dc tbX7_overlap_k 13 rfl) ?_
  refine lv_et (show (if _ then _ else _) = (imin (imax x0 x1) (imax x2 x3)) from rfl) ?_
  refine lv_icmp_gt (tgt := 33) hx hb (dc tbX7_overlap_k 14 rfl) rfl (fun c1 => ?_) (fun c1 => ?_)
  · have hf := ite_t c1 hf
    refine lv_iconst (v := 0) hx hb (dc tbX7_overlap_k 17 rfl) ic_0 ?_
    cases hf
    exact g_zret hx hb hr hlk hI rfl (dc tbX7_overlap_k 18 rfl)
  · have hf := ite_f c1 hf
    refine lv_iconst (v := 1) hx hb (dc tbX7_overlap_k 15 rfl) ic_1 ?_
    refine lv_goto (tgt := 34) hx hb (dc tbX7_overlap_k 16 rfl) rfl ?_
    cases hf
    exact g_zret hx hb hr hlk hI rfl (dc tbX7_overlap_k 18 rfl)
theorem cs_X7_overlap : csF yX7_overlap cX7_overlap 4 (some .boolean) 4 := ⟨q_t8_180, q_t1_11, q_t8_181, by decide +kernel⟩
def mX7_isCrossed_b97 (k0 : Nat) (M : Mem) (ih4 : Int32 → Int32 → Option Int32) (ih18 : Int32 → Int32 → Int32 → Option Int32) (x2 : Int32) (x3 : Int32) (y0 : Int32) : Option Int32 := bnd (x3 + (1 : Int32)) (fun x3_98 => ih18 y0 x2 x3_98)
set_option maxHeartbeats 4000000 in
set_option maxRecDepth 100000 in
theorem tX7_isCrossed_b97 {p : Program} {l : Launch} {e : Env} {s : State} {m : MethodId} {args : Array Value} {below : List Frame} {meth : Method} {c : Code} {G : GT} {kd : Nat → Nat × Nat} {ad : Nat → Nat} (C : Cx p s m args meth c cX7_isCrossed 4 (some .boolean) RX7 G kd ad) {k0 : Nat} (hk0 : kModel kd k0) {M : Mem} {vo : Int32} {ih4 : Int32 → Int32 → Option Int32} {ih18 : Int32 → Int32 → Int32 → Option Int32} (hih4 : ∀ (x1 : Int32) (x2 : Int32), ih4 x1 x2 = some vo → At p l e (rmO 1 0 0) s m args below meth c 0 0 (MQ below (Qg G kd ad s.heap.size M (some (.int vo))) args s 0 0 (AS kd ad s.heap.size)) G kd ad 4 4 [(0, .ref (ad k0)), (1, .int x1), (2, .int x2)] [] M) (hih18 : ∀ (x1 : Int32) (x2 : Int32) (x3 : Int32), ih18 x1 x2 x3 = some vo → At p l e (rmO 1 0 0) s m args below meth c 0 0 (MQ below (Qg G kd ad s.heap.size M (some (.int vo))) args s 0 0 (AS kd ad s.heap.size)) G kd ad 4 18 [(0, .ref (ad k0)), (1, .int x1), (2, .int x2), (3, .int x3)] [] M) : ∀ (x2 : Int32) (x3 : Int32) (y0 : Int32), mX7_isCrossed_b97 k0 M ih4 ih18 x2 x3 y0 = some vo → At p l e (rmO 1 0 0) s m args below meth c 0 0 (MQ below (Qg G kd ad s.heap.size M (some (.int vo))) args s 0 0 (AS kd ad s.heap.size)) G kd ad 4 97 [(0, .ref (ad k0)), (2, .int x2), (3, .int x3)] [.int y0] M := by
  intro x2 x3 y0 hf H locs ls hI hl
  obtain ⟨hx, hb, hml, hr, hown, hts, hlk, hK, hap, hsx⟩ := id C
  unfold mX7_isCrossed_b97 at hf
  refine lv_istore_n (lv' := [(1, .int y0), (0, .ref (ad k0)), (2, .int x2), (3, .int x3)]) hx hb (dc tbX7_isCrossed_1_k 21 rfl) rfl hl (by decide) rfl (fun ls hl => ?_)
  obtain ⟨x3_98, e9, hf⟩ := bnd_s hf
  refine lv_iinc (v := x3_98) (lv' := [(3, .int x3_98), (1, .int y0), (0, .ref (ad k0)), (2, .int x2)]) hx hb (dc tbX7_isCrossed_1_k 22 rfl) hl (k := 3) rfl (ii_e e9 ic_1) (by decide) rfl (fun ls hl => ?_)
  refine lv_goto (tgt := 18) hx hb (dc tbX7_isCrossed_1_k 23 rfl) rfl ?_
  exact hih18 y0 x2 x3_98 hf _ _ _ hI (lv_sub hl [2, 1, 3, 0] rfl)
def mX7_isCrossed_b92 (k0 : Nat) (M : Mem) (ih4 : Int32 → Int32 → Option Int32) (ih18 : Int32 → Int32 → Int32 → Option Int32) (x2 : Int32) (x3 : Int32) : Option Int32 := mX7_isCrossed_b97 k0 M ih4 ih18 x2 x3 (1 : Int32)
set_option maxHeartbeats 4000000 in
set_option maxRecDepth 100000 in
theorem tX7_isCrossed_b92 {p : Program} {l : Launch} {e : Env} {s : State} {m : MethodId} {args : Array Value} {below : List Frame} {meth : Method} {c : Code} {G : GT} {kd : Nat → Nat × Nat} {ad : Nat → Nat} (C : Cx p s m args meth c cX7_isCrossed 4 (some .boolean) RX7 G kd ad) {k0 : Nat} (hk0 : kModel kd k0) {M : Mem} {vo : Int32} {ih4 : Int32 → Int32 → Option Int32} {ih18 : Int32 → Int32 → Int32 → Option Int32} (hih4 : ∀ (x1 : Int32) (x2 : Int32), ih4 x1 x2 = some vo → At p l e (rmO 1 0 0) s m args below meth c 0 0 (MQ below (Qg G kd ad s.heap.size M (some (.int vo))) args s 0 0 (AS kd ad s.heap.size)) G kd ad 4 4 [(0, .ref (ad k0)), (1, .int x1), (2, .int x2)] [] M) (hih18 : ∀ (x1 : Int32) (x2 : Int32) (x3 : Int32), ih18 x1 x2 x3 = some vo → At p l e (rmO 1 0 0) s m args below meth c 0 0 (MQ below (Qg G kd ad s.heap.size M (some (.int vo))) args s 0 0 (AS kd ad s.heap.size)) G kd ad 4 18 [(0, .ref (ad k0)), (1, .int x1), (2, .int x2), (3, .int x3)] [] M) : ∀ (x2 : Int32) (x3 : Int32), mX7_isCrossed_b92 k0 M ih4 ih18 x2 x3 = some vo → At p l e (rmO 1 0 0) s m args below meth c 0 0 (MQ below (Qg G kd ad s.heap.size M (some (.int vo))) args s 0 0 (AS kd ad s.heap.size)) G kd ad 4 92 [(0, .ref (ad k0)), (2, .int x2), (3, .int x3)] [] M := by
  intro x2 x3 hf H locs ls hI hl
  obtain ⟨hx, hb, hml, hr, hown, hts, hlk, hK, hap, hsx⟩ := id C
  unfold mX7_isCrossed_b92 at hf
  refine lv_iconst (v := 1) hx hb (dc tbX7_isCrossed_1_k 18 rfl) ic_1 ?_
  refine lv_goto (tgt := 97) hx hb (dc tbX7_isCrossed_1_k 19 rfl) rfl ?_
  exact tX7_isCrossed_b97 C hk0 hih4 hih18 x2 x3 (1 : Int32) hf _ _ _ hI (lv_sub hl [0, 1, 2] rfl)
def mX7_isCrossed_b96 (k0 : Nat) (M : Mem) (ih4 : Int32 → Int32 → Option Int32) (ih18 : Int32 → Int32 → Int32 → Option Int32) (x2 : Int32) (x3 : Int32) : Option Int32 := mX7_isCrossed_b97 k0 M ih4 ih18 x2 x3 (0 : Int32)
set_option maxHeartbeats 4000000 in
set_option maxRecDepth 100000 in
theorem tX7_isCrossed_b96 {p : Program} {l : Launch} {e : Env} {s : State} {m : MethodId} {args : Array Value} {below : List Frame} {meth : Method} {c : Code} {G : GT} {kd : Nat → Nat × Nat} {ad : Nat → Nat} (C : Cx p s m args meth c cX7_isCrossed 4 (some .boolean) RX7 G kd ad) {k0 : Nat} (hk0 : kModel kd k0) {M : Mem} {vo : Int32} {ih4 : Int32 → Int32 → Option Int32} {ih18 : Int32 → Int32 → Int32 → Option Int32} (hih4 : ∀ (x1 : Int32) (x2 : Int32), ih4 x1 x2 = some vo → At p l e (rmO 1 0 0) s m args below meth c 0 0 (MQ below (Qg G kd ad s.heap.size M (some (.int vo))) args s 0 0 (AS kd ad s.heap.size)) G kd ad 4 4 [(0, .ref (ad k0)), (1, .int x1), (2, .int x2)] [] M) (hih18 : ∀ (x1 : Int32) (x2 : Int32) (x3 : Int32), ih18 x1 x2 x3 = some vo → At p l e (rmO 1 0 0) s m args below meth c 0 0 (MQ below (Qg G kd ad s.heap.size M (some (.int vo))) args s 0 0 (AS kd ad s.heap.size)) G kd ad 4 18 [(0, .ref (ad k0)), (1, .int x1), (2, .int x2), (3, .int x3)] [] M) : ∀ (x2 : Int32) (x3 : Int32), mX7_isCrossed_b96 k0 M ih4 ih18 x2 x3 = some vo → At p l e (rmO 1 0 0) s m args below meth c 0 0 (MQ below (Qg G kd ad s.heap.size M (some (.int vo))) args s 0 0 (AS kd ad s.heap.size)) G kd ad 4 96 [(0, .ref (ad k0)), (2, .int x2), (3, .int x3)] [] M := by
  intro x2 x3 hf H locs ls hI hl
  obtain ⟨hx, hb, hml, hr, hown, hts, hlk, hK, hap, hsx⟩ := id C
  unfold mX7_isCrossed_b96 at hf
  refine lv_iconst (v := 0) hx hb (dc tbX7_isCrossed_1_k 20 rfl) ic_0 ?_
  exact tX7_isCrossed_b97 C hk0 hih4 hih18 x2 x3 (0 : Int32) hf _ _ _ hI (lv_sub hl [0, 1, 2] rfl)
def mX7_isCrossed_b18 (k0 : Nat) (M : Mem) (ih4 : Int32 → Int32 → Option Int32) (ih18 : Int32 → Int32 → Int32 → Option Int32) (x1 : Int32) (x2 : Int32) (x3 : Int32) : Option Int32 := chk (okb (1 : Int32) 86) (ite2 ((rd M (k0 + 1) ((1 : Int32)).toNatClampNeg) ≤ x3) (bnd (x2 + (1 : Int32)) (fun x2_104 => ih4 x1 x2_104)) (ite2 (x1 = 0) (chk (okb x2 9) (chk (okb x2 9) (chk (okb x3 9) (chk (okb x3 9) (cap (mX7_overlap (rd M (k0 + 6) (x2).toNatClampNeg) (rd M (k0 + 8) (x2).toNatClampNeg) (rd M (k0 + 6) (x3).toNatClampNeg) (rd M (k0 + 8) (x3).toNatClampNeg) M) (fun r15 => ite2 (r15 = 0) (mX7_isCrossed_b96 k0 M ih4 ih18 x2 x3) (chk (okb x2 9) (chk (okb x2 9) (chk (okb x3 9) (chk (okb x3 9) (cap (mX7_overlap (rd M (k0 + 7) (x2).toNatClampNeg) (rd M (k0 + 9) (x2).toNatClampNeg) (rd M (k0 + 7) (x3).toNatClampNeg) (rd M (k0 + 9) (x3).toNatClampNeg) M) (fun r23 => ite2 (r23 = 0) (mX7_isCrossed_b96 k0 M ih4 ih18 x2 x3) (mX7_isCrossed_b92 k0 M ih4 ih18 x2 x3))))))))))))) (mX7_isCrossed_b92 k0 M ih4 ih18 x2 x3)))
set_option maxHeartbeats 4000000 in
set_option maxRecDepth 100000 in
theorem tX7_isCrossed_b18 {p : Program} {l : Launch} {e : Env} {s : State} {m : MethodId} {args : Array Value} {below : List Frame} {meth : Method} {c : Code} {G : GT} {kd : Nat → Nat × Nat} {ad : Nat → Nat} (C : Cx p s m args meth c cX7_isCrossed 4 (some .boolean) RX7 G kd ad) {k0 : Nat} (hk0 : kModel kd k0) {M : Mem} {vo : Int32} {ih4 : Int32 → Int32 → Option Int32} {ih18 : Int32 → Int32 → Int32 → Option Int32} (hih4 : ∀ (x1 : Int32) (x2 : Int32), ih4 x1 x2 = some vo → At p l e (rmO 1 0 0) s m args below meth c 0 0 (MQ below (Qg G kd ad s.heap.size M (some (.int vo))) args s 0 0 (AS kd ad s.heap.size)) G kd ad 4 4 [(0, .ref (ad k0)), (1, .int x1), (2, .int x2)] [] M) (hih18 : ∀ (x1 : Int32) (x2 : Int32) (x3 : Int32), ih18 x1 x2 x3 = some vo → At p l e (rmO 1 0 0) s m args below meth c 0 0 (MQ below (Qg G kd ad s.heap.size M (some (.int vo))) args s 0 0 (AS kd ad s.heap.size)) G kd ad 4 18 [(0, .ref (ad k0)), (1, .int x1), (2, .int x2), (3, .int x3)] [] M) : ∀ (x1 : Int32) (x2 : Int32) (x3 : Int32), mX7_isCrossed_b18 k0 M ih4 ih18 x1 x2 x3 = some vo → At p l e (rmO 1 0 0) s m args below meth c 0 0 (MQ below (Qg G kd ad s.heap.size M (some (.int vo))) args s 0 0 (AS kd ad s.heap.size)) G kd ad 4 18 [(0, .ref (ad k0)), (1, .int x1), (2, .int x2), (3, .int x3)] [] M := by
  intro x1 x2 x3 hf H locs ls hI hl
  obtain ⟨hx, hb, hml, hr, hown, hts, hlk, hK, hap, hsx⟩ := id C
  unfold mX7_isCrossed_b18 at hf
  refine lv_iload_n hx hb (dc tbX7_isCrossed_0_k 14 rfl) rfl (lv_at hl 3 rfl) ?_
  refine lv_aload_n hx hb (dc tbX7_isCrossed_0_k 15 rfl) rfl (lv_at hl 0 rfl) ?_
  refine gg7_0 hx hb hts hown hK hI hk0.1 q_t7_76 (dc tbX7_isCrossed_0_k 16 rfl) ?_
  refine lv_iconst (v := 1) hx hb (dc tbX7_isCrossed_0_k 17 rfl) ic_1 ?_
  obtain ⟨h5, hf⟩ := chk_s hf
  refine g_iald hx hb hK hI hk0.2.1 (okb_in h5) (dc tbX7_isCrossed_0_k 18 rfl) ?_
  refine lv_icmp_ge (tgt := 104) hx hb (dc tbX7_isCrossed_0_k 19 rfl) rfl (fun c6 => ?_) (fun c6 => ?_)
  · have hf := ite_t c6 hf
    obtain ⟨x2_104, e7, hf⟩ := bnd_s hf
    refine lv_iinc (v := x2_104) (lv' := [(2, .int x2_104), (0, .ref (ad k0)), (1, .int x1), (3, .int x3)]) hx hb (dc tbX7_isCrossed_1_k 24 rfl) hl (k := 2) rfl (ii_e e7 ic_1) (by decide) rfl (fun ls hl => ?_)
    refine lv_goto (tgt := 4) hx hb (dc tbX7_isCrossed_1_k 25 rfl) rfl ?_
    exact hih4 x1 x2_104 hf _ _ _ hI (lv_sub hl [1, 2, 0] rfl)
  · have hf := ite_f c6 hf
    refine lv_iload_n hx hb (dc tbX7_isCrossed_0_k 20 rfl) rfl (lv_at hl 1 rfl) ?_
    refine lv_if_ne (tgt := 92) hx hb (dc tbX7_isCrossed_0_k 21 rfl) rfl (fun c8 => ?_) (fun c8 => ?_)
    · have hf := ite_f c8 hf
      exact tX7_isCrossed_b92 C hk0 hih4 hih18 x2 x3 hf _ _ _ hI (lv_sub hl [0, 2, 3] rfl)
    · have hf := ite_t c8 hf
      refine lv_aload_n hx hb (dc tbX7_isCrossed_0_k 22 rfl) rfl (lv_at hl 0 rfl) ?_
      refine gg7_17 hx hb hts hown hK hI hk0.1 q_t7_93 (dc tbX7_isCrossed_0_k 23 rfl) ?_
      refine lv_iload_n hx hb (dc tbX7_isCrossed_0_k 24 rfl) rfl (lv_at hl 2 rfl) ?_
      obtain ⟨h10, hf⟩ := chk_s hf
      refine g_iald hx hb hK hI hk0.2.2.2.2.2.2.1 (okb_in h10) (dc tbX7_isCrossed_0_k 25 rfl) ?_
      refine lv_aload_n hx hb (dc tbX7_isCrossed_0_k 26 rfl) rfl (lv_at hl 0 rfl) ?_
      refine gg7_19 hx hb hts hown hK hI hk0.1 q_t7_95 (dc tbX7_isCrossed_0_k 27 rfl) ?_
      refine lv_iload_n hx hb (dc tbX7_isCrossed_0_k 28 rfl) rfl (lv_at hl 2 rfl) ?_
      obtain ⟨h11, hf⟩ := chk_s hf
      refine g_iald hx hb hK hI hk0.2.2.2.2.2.2.2.2.1 (okb_in h11) (dc tbX7_isCrossed_0_k 29 rfl) ?_
      refine lv_aload_n hx hb (dc tbX7_isCrossed_0_k 30 rfl) rfl (lv_at hl 0 rfl) ?_
      refine gg7_17 hx hb hts hown hK hI hk0.1 q_t7_93 (dc tbX7_isCrossed_0_k 31 rfl) ?_
      refine lv_iload_n hx hb (dc tbX7_isCrossed_0_k 32 rfl) rfl (lv_at hl 3 rfl) ?_
      obtain ⟨h12, hf⟩ := chk_s hf
      refine g_iald hx hb hK hI hk0.2.2.2.2.2.2.1 (okb_in h12) (dc tbX7_isCrossed_0_k 33 rfl) ?_
      refine lv_aload_n hx hb (dc tbX7_isCrossed_0_k 34 rfl) rfl (lv_at hl 0 rfl) ?_
      refine gg7_19 hx hb hts hown hK hI hk0.1 q_t7_95 (dc tbX7_isCrossed_0_k 35 rfl) ?_
      refine lv_iload_n hx hb (dc tbX7_isCrossed_0_k 36 rfl) rfl (lv_at hl 3 rfl) ?_
      obtain ⟨h13, hf⟩ := chk_s hf
      refine g_iald hx hb hK hI hk0.2.2.2.2.2.2.2.2.1 (okb_in h13) (dc tbX7_isCrossed_0_k 37 rfl) ?_
      obtain ⟨r15, q14, hf⟩ := cap_s hf
      refine g_callSi hx hb hml hown hts hK hap hsx hI (tX7_overlap l  q14 H.size) cs_X7_overlap q_t8_179 rfl rfl ⟨Nat.le_of_ble_eq_true rfl, Nat.le_of_ble_eq_true rfl⟩ rfl hl.1 rfl (Nat.le_of_ble_eq_true rfl) (dc tbX7_isCrossed_0_k 38 rfl) ⟨Nat.le_of_ble_eq_true rfl, Nat.le_of_ble_eq_true rfl⟩ (fun H locs hI => ?_)
      refine lv_if_eq (tgt := 96) hx hb (dc tbX7_isCrossed_0_k 39 rfl) rfl (fun c17 => ?_) (fun c17 => ?_)
      · have hf := ite_t c17 hf
        exact tX7_isCrossed_b96 C hk0 hih4 hih18 x2 x3 hf _ _ _ hI (lv_sub hl [0, 2, 3] rfl)
      · have hf := ite_f c17 hf
        refine lv_aload_n hx hb (dc tbX7_isCrossed_1_k 0 rfl) rfl (lv_at hl 0 rfl) ?_
        refine gg7_18 hx hb hts hown hK hI hk0.1 q_t7_94 (dc tbX7_isCrossed_1_k 1 rfl) ?_
        refine lv_iload_n hx hb (dc tbX7_isCrossed_1_k 2 rfl) rfl (lv_at hl 2 rfl) ?_
        obtain ⟨h18, hf⟩ := chk_s hf
        refine g_iald hx hb hK hI hk0.2.2.2.2.2.2.2.1 (okb_in h18) (dc tbX7_isCrossed_1_k 3 rfl) ?_
        refine lv_aload_n hx hb (dc tbX7_isCrossed_1_k 4 rfl) rfl (lv_at hl 0 rfl) ?_
        refine gg7_20 hx hb hts hown hK hI hk0.1 q_t7_96 (dc tbX7_isCrossed_1_k 5 rfl) ?_
        refine lv_iload_n hx hb (dc tbX7_isCrossed_1_k 6 rfl) rfl (lv_at hl 2 rfl) ?_
        obtain ⟨h19, hf⟩ := chk_s hf
        refine g_iald hx hb hK hI hk0.2.2.2.2.2.2.2.2.2.1 (okb_in h19) (dc tbX7_isCrossed_1_k 7 rfl) ?_
        refine lv_aload_n hx hb (dc tbX7_isCrossed_1_k 8 rfl) rfl (lv_at hl 0 rfl) ?_
        refine gg7_18 hx hb hts hown hK hI hk0.1 q_t7_94 (dc tbX7_isCrossed_1_k 9 rfl) ?_
        refine lv_iload_n hx hb (dc tbX7_isCrossed_1_k 10 rfl) rfl (lv_at hl 3 rfl) ?_
        obtain ⟨h20, hf⟩ := chk_s hf
        refine g_iald hx hb hK hI hk0.2.2.2.2.2.2.2.1 (okb_in h20) (dc tbX7_isCrossed_1_k 11 rfl) ?_
        refine lv_aload_n hx hb (dc tbX7_isCrossed_1_k 12 rfl) rfl (lv_at hl 0 rfl) ?_
        refine gg7_20 hx hb hts hown hK hI hk0.1 q_t7_96 (dc tbX7_isCrossed_1_k 13 rfl) ?_
        refine lv_iload_n hx hb (dc tbX7_isCrossed_1_k 14 rfl) rfl (lv_at hl 3 rfl) ?_
        obtain ⟨h21, hf⟩ := chk_s hf
        refine g_iald hx hb hK hI hk0.2.2.2.2.2.2.2.2.2.1 (okb_in h21) (dc tbX7_isCrossed_1_k 15 rfl) ?_
        obtain ⟨r23, q22, hf⟩ := cap_s hf
        refine g_callSi hx hb hml hown hts hK hap hsx hI (tX7_overlap l  q22 H.size) cs_X7_overlap q_t8_179 rfl rfl ⟨Nat.le_of_ble_eq_true rfl, Nat.le_of_ble_eq_true rfl⟩ rfl hl.1 rfl (Nat.le_of_ble_eq_true rfl) (dc tbX7_isCrossed_1_k 16 rfl) ⟨Nat.le_of_ble_eq_true rfl, Nat.le_of_ble_eq_true rfl⟩ (fun H locs hI => ?_)
        refine lv_if_eq (tgt := 96) hx hb (dc tbX7_isCrossed_1_k 17 rfl) rfl (fun c25 => ?_) (fun c25 => ?_)
        · have hf := ite_t c25 hf
          exact tX7_isCrossed_b96 C hk0 hih4 hih18 x2 x3 hf _ _ _ hI (lv_sub hl [0, 2, 3] rfl)
        · have hf := ite_f c25 hf
          exact tX7_isCrossed_b92 C hk0 hih4 hih18 x2 x3 hf _ _ _ hI (lv_sub hl [0, 2, 3] rfl)
def mX7_isCrossed_l18 (k0 : Nat) (M : Mem) (ih4 : Int32 → Int32 → Option Int32) : Nat → Int32 → Int32 → Int32 → Option Int32
  | 0 => fun _ _ _ => none
  | n + 1 => mX7_isCrossed_b18 k0 M ih4 (mX7_isCrossed_l18 k0 M ih4 n)
theorem tX7_isCrossed_l18 {p : Program} {l : Launch} {e : Env} {s : State} {m : MethodId} {args : Array Value} {below : List Frame} {meth : Method} {c : Code} {G : GT} {kd : Nat → Nat × Nat} {ad : Nat → Nat} (C : Cx p s m args meth c cX7_isCrossed 4 (some .boolean) RX7 G kd ad) {k0 : Nat} (hk0 : kModel kd k0) {M : Mem} {vo : Int32} {ih4 : Int32 → Int32 → Option Int32} (hih4 : ∀ (x1 : Int32) (x2 : Int32), ih4 x1 x2 = some vo → At p l e (rmO 1 0 0) s m args below meth c 0 0 (MQ below (Qg G kd ad s.heap.size M (some (.int vo))) args s 0 0 (AS kd ad s.heap.size)) G kd ad 4 4 [(0, .ref (ad k0)), (1, .int x1), (2, .int x2)] [] M) : ∀ (fuel : Nat) (x1 : Int32) (x2 : Int32) (x3 : Int32), mX7_isCrossed_l18 k0 M ih4 fuel x1 x2 x3 = some vo → At p l e (rmO 1 0 0) s m args below meth c 0 0 (MQ below (Qg G kd ad s.heap.size M (some (.int vo))) args s 0 0 (AS kd ad s.heap.size)) G kd ad 4 18 [(0, .ref (ad k0)), (1, .int x1), (2, .int x2), (3, .int x3)] [] M := by
  intro fuel
  induction fuel with
  | zero => intro x1 x2 x3 hf; cases hf
  | succ n IH => exact tX7_isCrossed_b18 C hk0 hih4 IH
def mX7_isCrossed_b4 (k0 : Nat) (M : Mem) (ih4 : Int32 → Int32 → Option Int32) (x1 : Int32) (x2 : Int32) : Option Int32 := chk (okb (1 : Int32) 86) (ite2 ((rd M (k0 + 1) ((1 : Int32)).toNatClampNeg) ≤ x2) (chk (isB x1) (some x1)) (bnd ((x2 + (2 : Int32))) (fun x3_17 => mX7_isCrossed_l18 k0 M ih4 5000 x1 x2 x3_17)))
set_option maxHeartbeats 4000000 in
set_option maxRecDepth 100000 in
theorem tX7_isCrossed_b4 {p : Program} {l : Launch} {e : Env} {s : State} {m : MethodId} {args : Array Value} {below : List Frame} {meth : Method} {c : Code} {G : GT} {kd : Nat → Nat × Nat} {ad : Nat → Nat} (C : Cx p s m args meth c cX7_isCrossed 4 (some .boolean) RX7 G kd ad) {k0 : Nat} (hk0 : kModel kd k0) {M : Mem} {vo : Int32} {ih4 : Int32 → Int32 → Option Int32} (hih4 : ∀ (x1 : Int32) (x2 : Int32), ih4 x1 x2 = some vo → At p l e (rmO 1 0 0) s m args below meth c 0 0 (MQ below (Qg G kd ad s.heap.size M (some (.int vo))) args s 0 0 (AS kd ad s.heap.size)) G kd ad 4 4 [(0, .ref (ad k0)), (1, .int x1), (2, .int x2)] [] M) : ∀ (x1 : Int32) (x2 : Int32), mX7_isCrossed_b4 k0 M ih4 x1 x2 = some vo → At p l e (rmO 1 0 0) s m args below meth c 0 0 (MQ below (Qg G kd ad s.heap.size M (some (.int vo))) args s 0 0 (AS kd ad s.heap.size)) G kd ad 4 4 [(0, .ref (ad k0)), (1, .int x1), (2, .int x2)] [] M := by
  intro x1 x2 hf H locs ls hI hl
  obtain ⟨hx, hb, hml, hr, hown, hts, hlk, hK, hap, hsx⟩ := id C
  unfold mX7_isCrossed_b4 at hf
  refine lv_iload_n hx hb (dc tbX7_isCrossed_0_k 4 rfl) rfl (lv_at hl 2 rfl) ?_
  refine lv_aload_n hx hb (dc tbX7_isCrossed_0_k 5 rfl) rfl (lv_at hl 0 rfl) ?_
  refine gg7_0 hx hb hts hown hK hI hk0.1 q_t7_76 (dc tbX7_isCrossed_0_k 6 rfl) ?_
  refine lv_iconst (v := 1) hx hb (dc tbX7_isCrossed_0_k 7 rfl) ic_1 ?_
  obtain ⟨h1, hf⟩ := chk_s hf
  refine g_iald hx hb hK hI hk0.2.1 (okb_in h1) (dc tbX7_isCrossed_0_k 8 rfl) ?_
  refine lv_icmp_ge (tgt := 110) hx hb (dc tbX7_isCrossed_0_k 9 rfl) rfl (fun c2 => ?_) (fun c2 => ?_)
  · have hf := ite_t c2 hf
    refine lv_iload_n hx hb (dc tbX7_isCrossed_1_k 26 rfl) rfl (lv_at hl 1 rfl) ?_
    obtain ⟨h3, hf⟩ := chk_s hf
    cases hf
    exact g_zret hx hb hr hlk hI (isB_n h3) (dc tbX7_isCrossed_1_k 27 rfl)
  · have hf := ite_f c2 hf
    refine lv_iload_n hx hb (dc tbX7_isCrossed_0_k 10 rfl) rfl (lv_at hl 2 rfl) ?_
    refine lv_iconst (v := 2) hx hb (dc tbX7_isCrossed_0_k 11 rfl) ic_2 ?_
    refine lv_iadd hx hb (dc tbX7_isCrossed_0_k 12 rfl) ?_
    obtain ⟨x3_17, e4, hf⟩ := bnd_s hf
    refine lv_ei e4 ?_
    refine lv_istore_n (lv' := [(3, .int x3_17), (0, .ref (ad k0)), (1, .int x1), (2, .int x2)]) hx hb (dc tbX7_isCrossed_0_k 13 rfl) rfl hl (by decide) rfl (fun ls hl => ?_)
    exact tX7_isCrossed_l18 C hk0 hih4 5000 x1 x2 x3_17 hf _ _ _ hI (lv_sub hl [1, 2, 3, 0] rfl)
def mX7_isCrossed_l4 (k0 : Nat) (M : Mem) : Nat → Int32 → Int32 → Option Int32
  | 0 => fun _ _ => none
  | n + 1 => mX7_isCrossed_b4 k0 M (mX7_isCrossed_l4 k0 M n)
theorem tX7_isCrossed_l4 {p : Program} {l : Launch} {e : Env} {s : State} {m : MethodId} {args : Array Value} {below : List Frame} {meth : Method} {c : Code} {G : GT} {kd : Nat → Nat × Nat} {ad : Nat → Nat} (C : Cx p s m args meth c cX7_isCrossed 4 (some .boolean) RX7 G kd ad) {k0 : Nat} (hk0 : kModel kd k0) {M : Mem} {vo : Int32}   : ∀ (fuel : Nat) (x1 : Int32) (x2 : Int32), mX7_isCrossed_l4 k0 M fuel x1 x2 = some vo → At p l e (rmO 1 0 0) s m args below meth c 0 0 (MQ below (Qg G kd ad s.heap.size M (some (.int vo))) args s 0 0 (AS kd ad s.heap.size)) G kd ad 4 4 [(0, .ref (ad k0)), (1, .int x1), (2, .int x2)] [] M := by
  intro fuel
  induction fuel with
  | zero => intro x1 x2 hf; cases hf
  | succ n IH => exact tX7_isCrossed_b4 C hk0 IH
def mX7_isCrossed (k0 : Nat) (M : Mem) : Option Int32 := mX7_isCrossed_l4 k0 M 5000 (0 : Int32) (0 : Int32)
set_option maxHeartbeats 4000000 in
set_option maxRecDepth 100000 in
theorem tX7_isCrossed (l : Launch) {G : GT} {kd : Nat → Nat × Nat} {ad : Nat → Nat} {k0 : Nat} (hk0 : kModel kd k0) {M : Mem} {vo : Int32} (hf : mX7_isCrossed k0 M = some vo) (n : Nat) : Met l yX7_isCrossed (Cond.code yX7_isCrossed cX7_isCrossed 4 (some .boolean) :: WA) (rmO 1 0 0) (Pg G kd ad n [.ref (ad k0)] M) (Qg G kd ad n M (some (.int vo))) 0 0 (AS kd ad n) := by
  refine g_body (own := RX7) (by decide) rfl ?_ (Nat.le_of_ble_eq_true rfl)
  intro p e s m args below meth c C _ H locs ls hI hl
  obtain ⟨hx, hb, hml, hr, hown, hts, hlk, hK, hap, hsx⟩ := id C
  have hl : lv_has ls 4 [(0, .ref (ad k0))] := hl
  unfold mX7_isCrossed at hf
  refine lv_iconst (v := 0) hx hb (dc tbX7_isCrossed_0_k 0 rfl) ic_0 ?_
  refine lv_istore_n (lv' := [(1, .int (0 : Int32)), (0, .ref (ad k0))]) hx hb (dc tbX7_isCrossed_0_k 1 rfl) rfl hl (by decide) rfl (fun ls hl => ?_)
  refine lv_iconst (v := 0) hx hb (dc tbX7_isCrossed_0_k 2 rfl) ic_0 ?_
  refine lv_istore_n (lv' := [(2, .int (0 : Int32)), (1, .int (0 : Int32)), (0, .ref (ad k0))]) hx hb (dc tbX7_isCrossed_0_k 3 rfl) rfl hl (by decide) rfl (fun ls hl => ?_)
  exact tX7_isCrossed_l4 C hk0 5000 (0 : Int32) (0 : Int32) hf _ _ _ hI (lv_sub hl [2, 1, 0] rfl)
theorem cv_X7_isCrossed : cvF RX7 yX7_isCrossed cX7_isCrossed 4 (some .boolean) 0 := ⟨q_t8_177, q_s5_1, q_t1_11, q_t8_178, by decide +kernel⟩
def mX7_gaugeLaid_b43 (k0 : Nat) (M : Mem) (ih5 : Int32 → Int32 → Int32 → Int32 → Option Int32) (x1 : Int32) (x2 : Int32) (x4 : Int32) (y0 : Int32) : Option Int32 := bnd (x4 + (1 : Int32)) (fun x4_44 => ih5 x1 x2 y0 x4_44)
set_option maxHeartbeats 4000000 in
set_option maxRecDepth 100000 in
theorem tX7_gaugeLaid_b43 {p : Program} {l : Launch} {e : Env} {s : State} {m : MethodId} {args : Array Value} {below : List Frame} {meth : Method} {c : Code} {G : GT} {kd : Nat → Nat × Nat} {ad : Nat → Nat} (C : Cx p s m args meth c cX7_gaugeLaid 5 (some .int) RX7 G kd ad) {k0 : Nat} (hk0 : kModel kd k0) {M : Mem} {vo : Int32} {ih5 : Int32 → Int32 → Int32 → Int32 → Option Int32} (hih5 : ∀ (x1 : Int32) (x2 : Int32) (x3 : Int32) (x4 : Int32), ih5 x1 x2 x3 x4 = some vo → At p l e (rmO 1 0 0) s m args below meth c 0 0 (MQ below (Qg G kd ad s.heap.size M (some (.int vo))) args s 0 0 (AS kd ad s.heap.size)) G kd ad 5 5 [(0, .ref (ad k0)), (1, .int x1), (2, .int x2), (3, .int x3), (4, .int x4)] [] M) : ∀ (x1 : Int32) (x2 : Int32) (x4 : Int32) (y0 : Int32), mX7_gaugeLaid_b43 k0 M ih5 x1 x2 x4 y0 = some vo → At p l e (rmO 1 0 0) s m args below meth c 0 0 (MQ below (Qg G kd ad s.heap.size M (some (.int vo))) args s 0 0 (AS kd ad s.heap.size)) G kd ad 5 43 [(0, .ref (ad k0)), (1, .int x1), (2, .int x2), (4, .int x4)] [.int y0] M := by
  intro x1 x2 x4 y0 hf H locs ls hI hl
  obtain ⟨hx, hb, hml, hr, hown, hts, hlk, hK, hap, hsx⟩ := id C
  unfold mX7_gaugeLaid_b43 at hf
  refine lv_istore_n (lv' := [(3, .int y0), (0, .ref (ad k0)), (1, .int x1), (2, .int x2), (4, .int x4)]) hx hb (dc tbX7_gaugeLaid_k 25 rfl) rfl hl (by decide) rfl (fun ls hl => ?_)
  obtain ⟨x4_44, e7, hf⟩ := bnd_s hf
  refine lv_iinc (v := x4_44) (lv' := [(4, .int x4_44), (3, .int y0), (0, .ref (ad k0)), (1, .int x1), (2, .int x2)]) hx hb (dc tbX7_gaugeLaid_k 26 rfl) hl (k := 4) rfl (ii_e e7 ic_1) (by decide) rfl (fun ls hl => ?_)
  refine lv_goto (tgt := 5) hx hb (dc tbX7_gaugeLaid_k 27 rfl) rfl ?_
  exact hih5 x1 x2 y0 x4_44 hf _ _ _ hI (lv_sub hl [2, 3, 4, 1, 0] rfl)
def mX7_gaugeLaid_b5 (k0 : Nat) (M : Mem) (ih5 : Int32 → Int32 → Int32 → Int32 → Option Int32) (x1 : Int32) (x2 : Int32) (x3 : Int32) (x4 : Int32) : Option Int32 := chk (okb (1 : Int32) 86) (ite2 ((rd M (k0 + 1) ((1 : Int32)).toNatClampNeg) ≤ x4) (some x3) (cap (mX7_isClamped k0 x4 x1 x2 M) (fun r4 => ite2 (r4 = 0) (mX7_gaugeLaid_b43 k0 M ih5 x1 x2 x4 x3) (chk (okb x4 9) (mX7_gaugeLaid_b43 k0 M ih5 x1 x2 x4 (imax x3 (-(rd M (k0 + 8) (x4).toNatClampNeg))))))))
set_option maxHeartbeats 4000000 in
set_option maxRecDepth 100000 in
theorem tX7_gaugeLaid_b5 {p : Program} {l : Launch} {e : Env} {s : State} {m : MethodId} {args : Array Value} {below : List Frame} {meth : Method} {c : Code} {G : GT} {kd : Nat → Nat × Nat} {ad : Nat → Nat} (C : Cx p s m args meth c cX7_gaugeLaid 5 (some .int) RX7 G kd ad) {k0 : Nat} (hk0 : kModel kd k0) {M : Mem} {vo : Int32} {ih5 : Int32 → Int32 → Int32 → Int32 → Option Int32} (hih5 : ∀ (x1 : Int32) (x2 : Int32) (x3 : Int32) (x4 : Int32), ih5 x1 x2 x3 x4 = some vo → At p l e (rmO 1 0 0) s m args below meth c 0 0 (MQ below (Qg G kd ad s.heap.size M (some (.int vo))) args s 0 0 (AS kd ad s.heap.size)) G kd ad 5 5 [(0, .ref (ad k0)), (1, .int x1), (2, .int x2), (3, .int x3), (4, .int x4)] [] M) : ∀ (x1 : Int32) (x2 : Int32) (x3 : Int32) (x4 : Int32), mX7_gaugeLaid_b5 k0 M ih5 x1 x2 x3 x4 = some vo → At p l e (rmO 1 0 0) s m args below meth c 0 0 (MQ below (Qg G kd ad s.heap.size M (some (.int vo))) args s 0 0 (AS kd ad s.heap.size)) G kd ad 5 5 [(0, .ref (ad k0)), (1, .int x1), (2, .int x2), (3, .int x3), (4, .int x4)] [] M := by
  intro x1 x2 x3 x4 hf H locs ls hI hl
  obtain ⟨hx, hb, hml, hr, hown, hts, hlk, hK, hap, hsx⟩ := id C
  unfold mX7_gaugeLaid_b5 at hf
  refine lv_iload hx hb (dc tbX7_gaugeLaid_k 4 rfl) (lv_at hl 4 rfl) ?_
  refine lv_aload_n hx hb (dc tbX7_gaugeLaid_k 5 rfl) rfl (lv_at hl 0 rfl) ?_
  refine gg7_0 hx hb hts hown hK hI hk0.1 q_t7_76 (dc tbX7_gaugeLaid_k 6 rfl) ?_
  refine lv_iconst (v := 1) hx hb (dc tbX7_gaugeLaid_k 7 rfl) ic_1 ?_
  obtain ⟨h1, hf⟩ := chk_s hf
  refine g_iald hx hb hK hI hk0.2.1 (okb_in h1) (dc tbX7_gaugeLaid_k 8 rfl) ?_
  refine lv_icmp_ge (tgt := 50) hx hb (dc tbX7_gaugeLaid_k 9 rfl) rfl (fun c2 => ?_) (fun c2 => ?_)
  · have hf := ite_t c2 hf
    refine lv_iload_n hx hb (dc tbX7_gaugeLaid_k 28 rfl) rfl (lv_at hl 3 rfl) ?_
    cases hf
    exact g_iret hx hb hr hlk hI (dc tbX7_gaugeLaid_k 29 rfl)
  · have hf := ite_f c2 hf
    refine lv_aload_n hx hb (dc tbX7_gaugeLaid_k 10 rfl) rfl (lv_at hl 0 rfl) ?_
    refine lv_iload hx hb (dc tbX7_gaugeLaid_k 11 rfl) (lv_at hl 4 rfl) ?_
    refine lv_iload_n hx hb (dc tbX7_gaugeLaid_k 12 rfl) rfl (lv_at hl 1 rfl) ?_
    refine lv_iload_n hx hb (dc tbX7_gaugeLaid_k 13 rfl) rfl (lv_at hl 2 rfl) ?_
    obtain ⟨r4, q3, hf⟩ := cap_s hf
    refine g_callVi hx hb hml hown hts hK hap hsx hI (tX7_isClamped l hk0 q3 H.size) cv_X7_isClamped q_t9_13 rfl rfl ⟨Nat.le_of_ble_eq_true rfl, Nat.le_of_ble_eq_true rfl⟩ hk0.1 (by simp) rfl rfl rfl hl.1 rfl (Nat.le_of_ble_eq_true rfl) (dc tbX7_gaugeLaid_k 14 rfl) ⟨Nat.le_of_ble_eq_true rfl, Nat.le_of_ble_eq_true rfl⟩ (fun H locs hI => ?_)
    refine lv_if_eq (tgt := 42) hx hb (dc tbX7_gaugeLaid_k 15 rfl) rfl (fun c6 => ?_) (fun c6 => ?_)
    · have hf := ite_t c6 hf
      refine lv_iload_n hx hb (dc tbX7_gaugeLaid_k 24 rfl) rfl (lv_at hl 3 rfl) ?_
      exact tX7_gaugeLaid_b43 C hk0 hih5 x1 x2 x4 x3 hf _ _ _ hI (lv_sub hl [0, 1, 2, 4] rfl)
    · have hf := ite_f c6 hf
      refine lv_iload_n hx hb (dc tbX7_gaugeLaid_k 16 rfl) rfl (lv_at hl 3 rfl) ?_
      refine lv_aload_n hx hb (dc tbX7_gaugeLaid_k 17 rfl) rfl (lv_at hl 0 rfl) ?_
      refine gg7_19 hx hb hts hown hK hI hk0.1 q_t7_95 (dc tbX7_gaugeLaid_k 18 rfl) ?_
      refine lv_iload hx hb (dc tbX7_gaugeLaid_k 19 rfl) (lv_at hl 4 rfl) ?_
      obtain ⟨h8, hf⟩ := chk_s hf
      refine g_iald hx hb hK hI hk0.2.2.2.2.2.2.2.2.1 (okb_in h8) (dc tbX7_gaugeLaid_k 20 rfl) ?_
      refine lv_ineg hx hb (dc tbX7_gaugeLaid_k 21 rfl) ?_
      refine va_mmax hx hb (hml.trans hl.1.symm) hown (hts _ q_t8_166) (hts _ q_t2_203) (hts _ q_t1_22) (hts _ q_t2_204) (Nat.le_of_ble_eq_true rfl) (Nat.le_of_ble_eq_true rfl) (Nat.le_of_ble_eq_true rfl) (Nat.le_of_ble_eq_true rfl) (dc tbX7_gaugeLaid_k 22 rfl) ?_
      refine lv_et (show (if _ then _ else _) = (imax x3 (-(rd M (k0 + 8) (x4).toNatClampNeg))) from rfl) ?_
      refine lv_goto (tgt := 43) hx hb (dc tbX7_gaugeLaid_k 23 rfl) rfl ?_
      exact tX7_gaugeLaid_b43 C hk0 hih5 x1 x2 x4 (imax x3 (-(rd M (k0 + 8) (x4).toNatClampNeg))) hf _ _ _ hI (lv_sub hl [0, 1, 2, 4] rfl)
def mX7_gaugeLaid_l5 (k0 : Nat) (M : Mem) : Nat → Int32 → Int32 → Int32 → Int32 → Option Int32
  | 0 => fun _ _ _ _ => none
  | n + 1 => mX7_gaugeLaid_b5 k0 M (mX7_gaugeLaid_l5 k0 M n)
theorem tX7_gaugeLaid_l5 {p : Program} {l : Launch} {e : Env} {s : State} {m : MethodId} {args : Array Value} {below : List Frame} {meth : Method} {c : Code} {G : GT} {kd : Nat → Nat × Nat} {ad : Nat → Nat} (C : Cx p s m args meth c cX7_gaugeLaid 5 (some .int) RX7 G kd ad) {k0 : Nat} (hk0 : kModel kd k0) {M : Mem} {vo : Int32}   : ∀ (fuel : Nat) (x1 : Int32) (x2 : Int32) (x3 : Int32) (x4 : Int32), mX7_gaugeLaid_l5 k0 M fuel x1 x2 x3 x4 = some vo → At p l e (rmO 1 0 0) s m args below meth c 0 0 (MQ below (Qg G kd ad s.heap.size M (some (.int vo))) args s 0 0 (AS kd ad s.heap.size)) G kd ad 5 5 [(0, .ref (ad k0)), (1, .int x1), (2, .int x2), (3, .int x3), (4, .int x4)] [] M := by
  intro fuel
  induction fuel with
  | zero => intro x1 x2 x3 x4 hf; cases hf
  | succ n IH => exact tX7_gaugeLaid_b5 C hk0 IH
def mX7_gaugeLaid (k0 : Nat) (x1 : Int32) (x2 : Int32) (M : Mem) : Option Int32 := mX7_gaugeLaid_l5 k0 M 5000 x1 x2 (0 : Int32) (0 : Int32)
set_option maxHeartbeats 4000000 in
set_option maxRecDepth 100000 in
theorem tX7_gaugeLaid (l : Launch) {G : GT} {kd : Nat → Nat × Nat} {ad : Nat → Nat} {k0 : Nat} (hk0 : kModel kd k0) {x1 : Int32} {x2 : Int32} {M : Mem} {vo : Int32} (hf : mX7_gaugeLaid k0 x1 x2 M = some vo) (n : Nat) : Met l yX7_gaugeLaid (Cond.code yX7_gaugeLaid cX7_gaugeLaid 5 (some .int) :: WA) (rmO 1 0 0) (Pg G kd ad n [.ref (ad k0), .int x1, .int x2] M) (Qg G kd ad n M (some (.int vo))) 0 0 (AS kd ad n) := by
  refine g_body (own := RX7) (by decide) rfl ?_ (Nat.le_of_ble_eq_true rfl)
  intro p e s m args below meth c C _ H locs ls hI hl
  obtain ⟨hx, hb, hml, hr, hown, hts, hlk, hK, hap, hsx⟩ := id C
  have hl : lv_has ls 5 [(0, .ref (ad k0)), (1, .int x1), (2, .int x2)] := hl
  unfold mX7_gaugeLaid at hf
  refine lv_iconst (v := 0) hx hb (dc tbX7_gaugeLaid_k 0 rfl) ic_0 ?_
  refine lv_istore_n (lv' := [(3, .int (0 : Int32)), (0, .ref (ad k0)), (1, .int x1), (2, .int x2)]) hx hb (dc tbX7_gaugeLaid_k 1 rfl) rfl hl (by decide) rfl (fun ls hl => ?_)
  refine lv_iconst (v := 0) hx hb (dc tbX7_gaugeLaid_k 2 rfl) ic_0 ?_
  refine lv_istore (lv' := [(4, .int (0 : Int32)), (3, .int (0 : Int32)), (0, .ref (ad k0)), (1, .int x1), (2, .int x2)]) hx hb (dc tbX7_gaugeLaid_k 3 rfl) hl (by decide) rfl (fun ls hl => ?_)
  exact tX7_gaugeLaid_l5 C hk0 5000 x1 x2 (0 : Int32) (0 : Int32) hf _ _ _ hI (lv_sub hl [2, 3, 4, 1, 0] rfl)
theorem cv_X7_gaugeLaid : cvF RX7 yX7_gaugeLaid cX7_gaugeLaid 5 (some .int) 2 := ⟨q_t9_11, q_s5_11, q_t1_11, q_t9_12, by decide +kernel⟩
def mX7_hittingLaid_b73 (k0 : Nat) (M : Mem) (ih6 : Int32 → Int32 → Int32 → Int32 → Int32 → Int32 → Option Int32) (x1 : Int32) (x2 : Int32) (x3 : Int32) (x4 : Int32) (x6 : Int32) (y0 : Int32) (y1 : Int32) : Option Int32 := bnd ((y0 ||| y1)) (fun x5_74 => bnd (x6 + (1 : Int32)) (fun x6_76 => ih6 x1 x2 x3 x4 x5_74 x6_76))
set_option maxHeartbeats 4000000 in
set_option maxRecDepth 100000 in
theorem tX7_hittingLaid_b73 {p : Program} {l : Launch} {e : Env} {s : State} {m : MethodId} {args : Array Value} {below : List Frame} {meth : Method} {c : Code} {G : GT} {kd : Nat → Nat × Nat} {ad : Nat → Nat} (C : Cx p s m args meth c cX7_hittingLaid 8 (some .int) RX7 G kd ad) {k0 : Nat} (hk0 : kModel kd k0) {M : Mem} {vo : Int32} {ih6 : Int32 → Int32 → Int32 → Int32 → Int32 → Int32 → Option Int32} (hih6 : ∀ (x1 : Int32) (x2 : Int32) (x3 : Int32) (x4 : Int32) (x5 : Int32) (x6 : Int32), ih6 x1 x2 x3 x4 x5 x6 = some vo → At p l e (rmO 4 0 0) s m args below meth c 0 0 (MQ below (Qg G kd ad s.heap.size M (some (.int vo))) args s 0 0 (AS kd ad s.heap.size)) G kd ad 8 6 [(0, .ref (ad k0)), (1, .int x1), (2, .int x2), (3, .int x3), (4, .int x4), (5, .int x5), (6, .int x6)] [] M) : ∀ (x1 : Int32) (x2 : Int32) (x3 : Int32) (x4 : Int32) (x6 : Int32) (y0 : Int32) (y1 : Int32), mX7_hittingLaid_b73 k0 M ih6 x1 x2 x3 x4 x6 y0 y1 = some vo → At p l e (rmO 4 0 0) s m args below meth c 0 0 (MQ below (Qg G kd ad s.heap.size M (some (.int vo))) args s 0 0 (AS kd ad s.heap.size)) G kd ad 8 73 [(0, .ref (ad k0)), (1, .int x1), (2, .int x2), (3, .int x3), (4, .int x4), (6, .int x6)] [.int y1, .int y0] M := by
  intro x1 x2 x3 x4 x6 y0 y1 hf H locs ls hI hl
  obtain ⟨hx, hb, hml, hr, hown, hts, hlk, hK, hap, hsx⟩ := id C
  unfold mX7_hittingLaid_b73 at hf
  refine lv_ior hx hb (dc tbX7_hittingLaid_0_k 38 rfl) ?_
  obtain ⟨x5_74, e9, hf⟩ := bnd_s hf
  refine lv_ei e9 ?_
  refine lv_istore (lv' := [(5, .int x5_74), (0, .ref (ad k0)), (1, .int x1), (2, .int x2), (3, .int x3), (4, .int x4), (6, .int x6)]) hx hb (dc tbX7_hittingLaid_0_k 39 rfl) hl (by decide) rfl (fun ls hl => ?_)
  obtain ⟨x6_76, e10, hf⟩ := bnd_s hf
  refine lv_iinc (v := x6_76) (lv' := [(6, .int x6_76), (5, .int x5_74), (0, .ref (ad k0)), (1, .int x1), (2, .int x2), (3, .int x3), (4, .int x4)]) hx hb (dc tbX7_hittingLaid_1_k 0 rfl) hl (k := 6) rfl (ii_e e10 ic_1) (by decide) rfl (fun ls hl => ?_)
  refine lv_goto (tgt := 6) hx hb (dc tbX7_hittingLaid_1_k 1 rfl) rfl ?_
  exact hih6 x1 x2 x3 x4 x5_74 x6_76 hf _ _ _ hI (lv_sub hl [2, 3, 4, 5, 6, 1, 0] rfl)
def mX7_hittingLaid_b72 (k0 : Nat) (M : Mem) (ih6 : Int32 → Int32 → Int32 → Int32 → Int32 → Int32 → Option Int32) (x1 : Int32) (x2 : Int32) (x3 : Int32) (x4 : Int32) (x6 : Int32) (y0 : Int32) : Option Int32 := mX7_hittingLaid_b73 k0 M ih6 x1 x2 x3 x4 x6 y0 (0 : Int32)
set_option maxHeartbeats 4000000 in
set_option maxRecDepth 100000 in
theorem tX7_hittingLaid_b72 {p : Program} {l : Launch} {e : Env} {s : State} {m : MethodId} {args : Array Value} {below : List Frame} {meth : Method} {c : Code} {G : GT} {kd : Nat → Nat × Nat} {ad : Nat → Nat} (C : Cx p s m args meth c cX7_hittingLaid 8 (some .int) RX7 G kd ad) {k0 : Nat} (hk0 : kModel kd k0) {M : Mem} {vo : Int32} {ih6 : Int32 → Int32 → Int32 → Int32 → Int32 → Int32 → Option Int32} (hih6 : ∀ (x1 : Int32) (x2 : Int32) (x3 : Int32) (x4 : Int32) (x5 : Int32) (x6 : Int32), ih6 x1 x2 x3 x4 x5 x6 = some vo → At p l e (rmO 4 0 0) s m args below meth c 0 0 (MQ below (Qg G kd ad s.heap.size M (some (.int vo))) args s 0 0 (AS kd ad s.heap.size)) G kd ad 8 6 [(0, .ref (ad k0)), (1, .int x1), (2, .int x2), (3, .int x3), (4, .int x4), (5, .int x5), (6, .int x6)] [] M) : ∀ (x1 : Int32) (x2 : Int32) (x3 : Int32) (x4 : Int32) (x6 : Int32) (y0 : Int32), mX7_hittingLaid_b72 k0 M ih6 x1 x2 x3 x4 x6 y0 = some vo → At p l e (rmO 4 0 0) s m args below meth c 0 0 (MQ below (Qg G kd ad s.heap.size M (some (.int vo))) args s 0 0 (AS kd ad s.heap.size)) G kd ad 8 72 [(0, .ref (ad k0)), (1, .int x1), (2, .int x2), (3, .int x3), (4, .int x4), (6, .int x6)] [.int y0] M := by
  intro x1 x2 x3 x4 x6 y0 hf H locs ls hI hl
  obtain ⟨hx, hb, hml, hr, hown, hts, hlk, hK, hap, hsx⟩ := id C
  unfold mX7_hittingLaid_b72 at hf
  refine lv_iconst (v := 0) hx hb (dc tbX7_hittingLaid_0_k 37 rfl) ic_0 ?_
  exact tX7_hittingLaid_b73 C hk0 hih6 x1 x2 x3 x4 x6 y0 (0 : Int32) hf _ _ _ hI (lv_sub hl [0, 1, 2, 3, 4, 5] rfl)
def mX7_hittingLaid_b54 (k0 : Nat) (M : Mem) (ih6 : Int32 → Int32 → Int32 → Int32 → Int32 → Int32 → Option Int32) (x1 : Int32) (x2 : Int32) (x3 : Int32) (x4 : Int32) (x6 : Int32) (x7 : Int32) (y0 : Int32) : Option Int32 := cap (mX7_hits k0 x6 x7 M) (fun r12 => ite2 (r12 = 0) (mX7_hittingLaid_b72 k0 M ih6 x1 x2 x3 x4 x6 y0) (mX7_hittingLaid_b73 k0 M ih6 x1 x2 x3 x4 x6 y0 ((1 : Int32) <<< (x6 &&& 31))))
set_option maxHeartbeats 4000000 in
set_option maxRecDepth 100000 in
theorem tX7_hittingLaid_b54 {p : Program} {l : Launch} {e : Env} {s : State} {m : MethodId} {args : Array Value} {below : List Frame} {meth : Method} {c : Code} {G : GT} {kd : Nat → Nat × Nat} {ad : Nat → Nat} (C : Cx p s m args meth c cX7_hittingLaid 8 (some .int) RX7 G kd ad) {k0 : Nat} (hk0 : kModel kd k0) {M : Mem} {vo : Int32} {ih6 : Int32 → Int32 → Int32 → Int32 → Int32 → Int32 → Option Int32} (hih6 : ∀ (x1 : Int32) (x2 : Int32) (x3 : Int32) (x4 : Int32) (x5 : Int32) (x6 : Int32), ih6 x1 x2 x3 x4 x5 x6 = some vo → At p l e (rmO 4 0 0) s m args below meth c 0 0 (MQ below (Qg G kd ad s.heap.size M (some (.int vo))) args s 0 0 (AS kd ad s.heap.size)) G kd ad 8 6 [(0, .ref (ad k0)), (1, .int x1), (2, .int x2), (3, .int x3), (4, .int x4), (5, .int x5), (6, .int x6)] [] M) : ∀ (x1 : Int32) (x2 : Int32) (x3 : Int32) (x4 : Int32) (x6 : Int32) (x7 : Int32) (y0 : Int32), mX7_hittingLaid_b54 k0 M ih6 x1 x2 x3 x4 x6 x7 y0 = some vo → At p l e (rmO 4 0 0) s m args below meth c 0 0 (MQ below (Qg G kd ad s.heap.size M (some (.int vo))) args s 0 0 (AS kd ad s.heap.size)) G kd ad 8 54 [(0, .ref (ad k0)), (1, .int x1), (2, .int x2), (3, .int x3), (4, .int x4), (6, .int x6), (7, .int x7)] [.int y0] M := by
  intro x1 x2 x3 x4 x6 x7 y0 hf H locs ls hI hl
  obtain ⟨hx, hb, hml, hr, hown, hts, hlk, hK, hap, hsx⟩ := id C
  unfold mX7_hittingLaid_b54 at hf
  refine lv_aload_n hx hb (dc tbX7_hittingLaid_0_k 28 rfl) rfl (lv_at hl 0 rfl) ?_
  refine lv_iload hx hb (dc tbX7_hittingLaid_0_k 29 rfl) (lv_at hl 5 rfl) ?_
  refine lv_iload hx hb (dc tbX7_hittingLaid_0_k 30 rfl) (lv_at hl 6 rfl) ?_
  obtain ⟨r12, q11, hf⟩ := cap_s hf
  refine g_callVi hx hb hml hown hts hK hap hsx hI (tX7_hits l hk0 q11 H.size) cv_X7_hits q_t9_21 rfl rfl ⟨Nat.le_of_ble_eq_true rfl, Nat.le_of_ble_eq_true rfl⟩ hk0.1 (by simp) rfl rfl rfl hl.1 rfl (Nat.le_of_ble_eq_true rfl) (dc tbX7_hittingLaid_0_k 31 rfl) ⟨Nat.le_of_ble_eq_true rfl, Nat.le_of_ble_eq_true rfl⟩ (fun H locs hI => ?_)
  refine lv_if_eq (tgt := 72) hx hb (dc tbX7_hittingLaid_0_k 32 rfl) rfl (fun c14 => ?_) (fun c14 => ?_)
  · have hf := ite_t c14 hf
    exact tX7_hittingLaid_b72 C hk0 hih6 x1 x2 x3 x4 x6 y0 hf _ _ _ hI (lv_sub hl [0, 1, 2, 3, 4, 5] rfl)
  · have hf := ite_f c14 hf
    refine lv_iconst (v := 1) hx hb (dc tbX7_hittingLaid_0_k 33 rfl) ic_1 ?_
    refine lv_iload hx hb (dc tbX7_hittingLaid_0_k 34 rfl) (lv_at hl 5 rfl) ?_
    refine lv_ishl hx hb (dc tbX7_hittingLaid_0_k 35 rfl) ?_
    refine lv_goto (tgt := 73) hx hb (dc tbX7_hittingLaid_0_k 36 rfl) rfl ?_
    exact tX7_hittingLaid_b73 C hk0 hih6 x1 x2 x3 x4 x6 y0 ((1 : Int32) <<< (x6 &&& 31)) hf _ _ _ hI (lv_sub hl [0, 1, 2, 3, 4, 5] rfl)
def mX7_hittingLaid_b33 (k0 : Nat) (M : Mem) (ih6 : Int32 → Int32 → Int32 → Int32 → Int32 → Int32 → Option Int32) (x1 : Int32) (x2 : Int32) (x3 : Int32) (x4 : Int32) (x5 : Int32) (x6 : Int32) (y0 : Int32) : Option Int32 := ite2 (y0 = 0) (ite2 (x3 = 0) (mX7_hittingLaid_b72 k0 M ih6 x1 x2 x3 x4 x6 x5) (mX7_hittingLaid_b54 k0 M ih6 x1 x2 x3 x4 x6 y0 x5)) (ite2 (x4 = 0) (mX7_hittingLaid_b72 k0 M ih6 x1 x2 x3 x4 x6 x5) (mX7_hittingLaid_b54 k0 M ih6 x1 x2 x3 x4 x6 y0 x5))
set_option maxHeartbeats 4000000 in
set_option maxRecDepth 100000 in
theorem tX7_hittingLaid_b33 {p : Program} {l : Launch} {e : Env} {s : State} {m : MethodId} {args : Array Value} {below : List Frame} {meth : Method} {c : Code} {G : GT} {kd : Nat → Nat × Nat} {ad : Nat → Nat} (C : Cx p s m args meth c cX7_hittingLaid 8 (some .int) RX7 G kd ad) {k0 : Nat} (hk0 : kModel kd k0) {M : Mem} {vo : Int32} {ih6 : Int32 → Int32 → Int32 → Int32 → Int32 → Int32 → Option Int32} (hih6 : ∀ (x1 : Int32) (x2 : Int32) (x3 : Int32) (x4 : Int32) (x5 : Int32) (x6 : Int32), ih6 x1 x2 x3 x4 x5 x6 = some vo → At p l e (rmO 4 0 0) s m args below meth c 0 0 (MQ below (Qg G kd ad s.heap.size M (some (.int vo))) args s 0 0 (AS kd ad s.heap.size)) G kd ad 8 6 [(0, .ref (ad k0)), (1, .int x1), (2, .int x2), (3, .int x3), (4, .int x4), (5, .int x5), (6, .int x6)] [] M) : ∀ (x1 : Int32) (x2 : Int32) (x3 : Int32) (x4 : Int32) (x5 : Int32) (x6 : Int32) (y0 : Int32), mX7_hittingLaid_b33 k0 M ih6 x1 x2 x3 x4 x5 x6 y0 = some vo → At p l e (rmO 4 0 0) s m args below meth c 0 0 (MQ below (Qg G kd ad s.heap.size M (some (.int vo))) args s 0 0 (AS kd ad s.heap.size)) G kd ad 8 33 [(0, .ref (ad k0)), (1, .int x1), (2, .int x2), (3, .int x3), (4, .int x4), (5, .int x5), (6, .int x6)] [.int y0] M := by
  intro x1 x2 x3 x4 x5 x6 y0 hf H locs ls hI hl
  obtain ⟨hx, hb, hml, hr, hown, hts, hlk, hK, hap, hsx⟩ := id C
  unfold mX7_hittingLaid_b33 at hf
  refine lv_istore (lv' := [(7, .int y0), (0, .ref (ad k0)), (1, .int x1), (2, .int x2), (3, .int x3), (4, .int x4), (5, .int x5), (6, .int x6)]) hx hb (dc tbX7_hittingLaid_0_k 19 rfl) hl (by decide) rfl (fun ls hl => ?_)
  refine lv_iload hx hb (dc tbX7_hittingLaid_0_k 20 rfl) (lv_at hl 6 rfl) ?_
  refine lv_iload hx hb (dc tbX7_hittingLaid_0_k 21 rfl) (lv_at hl 0 rfl) ?_
  refine lv_if_eq (tgt := 50) hx hb (dc tbX7_hittingLaid_0_k 22 rfl) rfl (fun c7 => ?_) (fun c7 => ?_)
  · have hf := ite_t c7 hf
    refine lv_iload_n hx hb (dc tbX7_hittingLaid_0_k 26 rfl) rfl (lv_at hl 4 rfl) ?_
    refine lv_if_eq (tgt := 72) hx hb (dc tbX7_hittingLaid_0_k 27 rfl) rfl (fun c8 => ?_) (fun c8 => ?_)
    · have hf := ite_t c8 hf
      exact tX7_hittingLaid_b72 C hk0 hih6 x1 x2 x3 x4 x6 x5 hf _ _ _ hI (lv_sub hl [1, 2, 3, 4, 5, 7] rfl)
    · have hf := ite_f c8 hf
      exact tX7_hittingLaid_b54 C hk0 hih6 x1 x2 x3 x4 x6 y0 x5 hf _ _ _ hI (lv_sub hl [1, 2, 3, 4, 5, 7, 0] rfl)
  · have hf := ite_f c7 hf
    refine lv_iload hx hb (dc tbX7_hittingLaid_0_k 23 rfl) (lv_at hl 5 rfl) ?_
    refine lv_if_eq (tgt := 72) hx hb (dc tbX7_hittingLaid_0_k 24 rfl) rfl (fun c15 => ?_) (fun c15 => ?_)
    · have hf := ite_t c15 hf
      exact tX7_hittingLaid_b72 C hk0 hih6 x1 x2 x3 x4 x6 x5 hf _ _ _ hI (lv_sub hl [1, 2, 3, 4, 5, 7] rfl)
    · have hf := ite_f c15 hf
      refine lv_goto (tgt := 54) hx hb (dc tbX7_hittingLaid_0_k 25 rfl) rfl ?_
      exact tX7_hittingLaid_b54 C hk0 hih6 x1 x2 x3 x4 x6 y0 x5 hf _ _ _ hI (lv_sub hl [1, 2, 3, 4, 5, 7, 0] rfl)
def mX7_hittingLaid_b6 (k0 : Nat) (M : Mem) (ih6 : Int32 → Int32 → Int32 → Int32 → Int32 → Int32 → Option Int32) (x1 : Int32) (x2 : Int32) (x3 : Int32) (x4 : Int32) (x5 : Int32) (x6 : Int32) : Option Int32 := chk (okb (1 : Int32) 86) (ite2 ((rd M (k0 + 1) ((1 : Int32)).toNatClampNeg) ≤ x6) (some x5) (cap (mX7_isClamped k0 x6 x1 x2 M) (fun r4 => ite2 (r4 = 0) (mX7_hittingLaid_b33 k0 M ih6 x1 x2 x3 x4 x5 x6 (1 : Int32)) (mX7_hittingLaid_b33 k0 M ih6 x1 x2 x3 x4 x5 x6 (0 : Int32)))))
set_option maxHeartbeats 4000000 in
set_option maxRecDepth 100000 in
theorem tX7_hittingLaid_b6 {p : Program} {l : Launch} {e : Env} {s : State} {m : MethodId} {args : Array Value} {below : List Frame} {meth : Method} {c : Code} {G : GT} {kd : Nat → Nat × Nat} {ad : Nat → Nat} (C : Cx p s m args meth c cX7_hittingLaid 8 (some .int) RX7 G kd ad) {k0 : Nat} (hk0 : kModel kd k0) {M : Mem} {vo : Int32} {ih6 : Int32 → Int32 → Int32 → Int32 → Int32 → Int32 → Option Int32} (hih6 : ∀ (x1 : Int32) (x2 : Int32) (x3 : Int32) (x4 : Int32) (x5 : Int32) (x6 : Int32), ih6 x1 x2 x3 x4 x5 x6 = some vo → At p l e (rmO 4 0 0) s m args below meth c 0 0 (MQ below (Qg G kd ad s.heap.size M (some (.int vo))) args s 0 0 (AS kd ad s.heap.size)) G kd ad 8 6 [(0, .ref (ad k0)), (1, .int x1), (2, .int x2), (3, .int x3), (4, .int x4), (5, .int x5), (6, .int x6)] [] M) : ∀ (x1 : Int32) (x2 : Int32) (x3 : Int32) (x4 : Int32) (x5 : Int32) (x6 : Int32), mX7_hittingLaid_b6 k0 M ih6 x1 x2 x3 x4 x5 x6 = some vo → At p l e (rmO 4 0 0) s m args below meth c 0 0 (MQ below (Qg G kd ad s.heap.size M (some (.int vo))) args s 0 0 (AS kd ad s.heap.size)) G kd ad 8 6 [(0, .ref (ad k0)), (1, .int x1), (2, .int x2), (3, .int x3), (4, .int x4), (5, .int x5), (6, .int x6)] [] M := by
  intro x1 x2 x3 x4 x5 x6 hf H locs ls hI hl
  obtain ⟨hx, hb, hml, hr, hown, hts, hlk, hK, hap, hsx⟩ := id C
  unfold mX7_hittingLaid_b6 at hf
  refine lv_iload hx hb (dc tbX7_hittingLaid_0_k 4 rfl) (lv_at hl 6 rfl) ?_
  refine lv_aload_n hx hb (dc tbX7_hittingLaid_0_k 5 rfl) rfl (lv_at hl 0 rfl) ?_
  refine gg7_0 hx hb hts hown hK hI hk0.1 q_t7_76 (dc tbX7_hittingLaid_0_k 6 rfl) ?_
  refine lv_iconst (v := 1) hx hb (dc tbX7_hittingLaid_0_k 7 rfl) ic_1 ?_
  obtain ⟨h1, hf⟩ := chk_s hf
  refine g_iald hx hb hK hI hk0.2.1 (okb_in h1) (dc tbX7_hittingLaid_0_k 8 rfl) ?_
  refine lv_icmp_ge (tgt := 82) hx hb (dc tbX7_hittingLaid_0_k 9 rfl) rfl (fun c2 => ?_) (fun c2 => ?_)
  · have hf := ite_t c2 hf
    refine lv_iload hx hb (dc tbX7_hittingLaid_1_k 2 rfl) (lv_at hl 5 rfl) ?_
    cases hf
    exact g_iret hx hb hr hlk hI (dc tbX7_hittingLaid_1_k 3 rfl)
  · have hf := ite_f c2 hf
    refine lv_aload_n hx hb (dc tbX7_hittingLaid_0_k 10 rfl) rfl (lv_at hl 0 rfl) ?_
    refine lv_iload hx hb (dc tbX7_hittingLaid_0_k 11 rfl) (lv_at hl 6 rfl) ?_
    refine lv_iload_n hx hb (dc tbX7_hittingLaid_0_k 12 rfl) rfl (lv_at hl 1 rfl) ?_
    refine lv_iload_n hx hb (dc tbX7_hittingLaid_0_k 13 rfl) rfl (lv_at hl 2 rfl) ?_
    obtain ⟨r4, q3, hf⟩ := cap_s hf
    refine g_callVi hx hb hml hown hts hK hap hsx hI (tX7_isClamped l hk0 q3 H.size) cv_X7_isClamped q_t9_13 rfl rfl ⟨Nat.le_of_ble_eq_true rfl, Nat.le_of_ble_eq_true rfl⟩ hk0.1 (by simp) rfl rfl rfl hl.1 rfl (Nat.le_of_ble_eq_true rfl) (dc tbX7_hittingLaid_0_k 14 rfl) ⟨Nat.le_of_ble_eq_true rfl, Nat.le_of_ble_eq_true rfl⟩ (fun H locs hI => ?_)
    refine lv_if_ne (tgt := 32) hx hb (dc tbX7_hittingLaid_0_k 15 rfl) rfl (fun c6 => ?_) (fun c6 => ?_)
    · have hf := ite_f c6 hf
      refine lv_iconst (v := 0) hx hb (dc tbX7_hittingLaid_0_k 18 rfl) ic_0 ?_
      exact tX7_hittingLaid_b33 C hk0 hih6 x1 x2 x3 x4 x5 x6 (0 : Int32) hf _ _ _ hI (lv_sub hl [0, 1, 2, 3, 4, 5, 6] rfl)
    · have hf := ite_t c6 hf
      refine lv_iconst (v := 1) hx hb (dc tbX7_hittingLaid_0_k 16 rfl) ic_1 ?_
      refine lv_goto (tgt := 33) hx hb (dc tbX7_hittingLaid_0_k 17 rfl) rfl ?_
      exact tX7_hittingLaid_b33 C hk0 hih6 x1 x2 x3 x4 x5 x6 (1 : Int32) hf _ _ _ hI (lv_sub hl [0, 1, 2, 3, 4, 5, 6] rfl)
def mX7_hittingLaid_l6 (k0 : Nat) (M : Mem) : Nat → Int32 → Int32 → Int32 → Int32 → Int32 → Int32 → Option Int32
  | 0 => fun _ _ _ _ _ _ => none
  | n + 1 => mX7_hittingLaid_b6 k0 M (mX7_hittingLaid_l6 k0 M n)
theorem tX7_hittingLaid_l6 {p : Program} {l : Launch} {e : Env} {s : State} {m : MethodId} {args : Array Value} {below : List Frame} {meth : Method} {c : Code} {G : GT} {kd : Nat → Nat × Nat} {ad : Nat → Nat} (C : Cx p s m args meth c cX7_hittingLaid 8 (some .int) RX7 G kd ad) {k0 : Nat} (hk0 : kModel kd k0) {M : Mem} {vo : Int32}   : ∀ (fuel : Nat) (x1 : Int32) (x2 : Int32) (x3 : Int32) (x4 : Int32) (x5 : Int32) (x6 : Int32), mX7_hittingLaid_l6 k0 M fuel x1 x2 x3 x4 x5 x6 = some vo → At p l e (rmO 4 0 0) s m args below meth c 0 0 (MQ below (Qg G kd ad s.heap.size M (some (.int vo))) args s 0 0 (AS kd ad s.heap.size)) G kd ad 8 6 [(0, .ref (ad k0)), (1, .int x1), (2, .int x2), (3, .int x3), (4, .int x4), (5, .int x5), (6, .int x6)] [] M := by
  intro fuel
  induction fuel with
  | zero => intro x1 x2 x3 x4 x5 x6 hf; cases hf
  | succ n IH => exact tX7_hittingLaid_b6 C hk0 IH
def mX7_hittingLaid (k0 : Nat) (x1 : Int32) (x2 : Int32) (x3 : Int32) (x4 : Int32) (M : Mem) : Option Int32 := mX7_hittingLaid_l6 k0 M 5000 x1 x2 x3 x4 (0 : Int32) (0 : Int32)
set_option maxHeartbeats 4000000 in
set_option maxRecDepth 100000 in
theorem tX7_hittingLaid (l : Launch) {G : GT} {kd : Nat → Nat × Nat} {ad : Nat → Nat} {k0 : Nat} (hk0 : kModel kd k0) {x1 : Int32} {x2 : Int32} {x3 : Int32} {x4 : Int32} {M : Mem} {vo : Int32} (hf : mX7_hittingLaid k0 x1 x2 x3 x4 M = some vo) (n : Nat) : Met l yX7_hittingLaid (Cond.code yX7_hittingLaid cX7_hittingLaid 8 (some .int) :: WA) (rmO 4 0 0) (Pg G kd ad n [.ref (ad k0), .int x1, .int x2, .int x3, .int x4] M) (Qg G kd ad n M (some (.int vo))) 0 0 (AS kd ad n) := by
  refine g_body (own := RX7) (by decide) rfl ?_ (Nat.le_of_ble_eq_true rfl)
  intro p e s m args below meth c C _ H locs ls hI hl
  obtain ⟨hx, hb, hml, hr, hown, hts, hlk, hK, hap, hsx⟩ := id C
  have hl : lv_has ls 8 [(0, .ref (ad k0)), (1, .int x1), (2, .int x2), (3, .int x3), (4, .int x4)] := hl
  unfold mX7_hittingLaid at hf
  refine lv_iconst (v := 0) hx hb (dc tbX7_hittingLaid_0_k 0 rfl) ic_0 ?_
  refine lv_istore (lv' := [(5, .int (0 : Int32)), (0, .ref (ad k0)), (1, .int x1), (2, .int x2), (3, .int x3), (4, .int x4)]) hx hb (dc tbX7_hittingLaid_0_k 1 rfl) hl (by decide) rfl (fun ls hl => ?_)
  refine lv_iconst (v := 0) hx hb (dc tbX7_hittingLaid_0_k 2 rfl) ic_0 ?_
  refine lv_istore (lv' := [(6, .int (0 : Int32)), (5, .int (0 : Int32)), (0, .ref (ad k0)), (1, .int x1), (2, .int x2), (3, .int x3), (4, .int x4)]) hx hb (dc tbX7_hittingLaid_0_k 3 rfl) hl (by decide) rfl (fun ls hl => ?_)
  exact tX7_hittingLaid_l6 C hk0 5000 x1 x2 x3 x4 (0 : Int32) (0 : Int32) hf _ _ _ hI (lv_sub hl [2, 3, 4, 5, 6, 1, 0] rfl)
theorem cv_X7_hittingLaid : cvF RX7 yX7_hittingLaid cX7_hittingLaid 8 (some .int) 4 := ⟨q_t9_19, q_s5_13, q_t1_11, q_t9_20, by decide +kernel⟩
def mX7_isShort_b11 (k0 : Nat) (M : Mem) (y0 : Int32) : Option Int32 := chk (okb ((2 : Int32) + y0) 86) (cap (mX7_toolOf k0 (4 : Int32) (0 : Int32) M) (fun r4 => ite2 (r4 ≤ (rd M (k0 + 1) (((2 : Int32) + y0)).toNatClampNeg)) (some (0 : Int32)) (some (1 : Int32))))
set_option maxHeartbeats 4000000 in
set_option maxRecDepth 100000 in
theorem tX7_isShort_b11 {p : Program} {l : Launch} {e : Env} {s : State} {m : MethodId} {args : Array Value} {below : List Frame} {meth : Method} {c : Code} {G : GT} {kd : Nat → Nat × Nat} {ad : Nat → Nat} (C : Cx p s m args meth c cX7_isShort 4 (some .boolean) RX7 G kd ad) {k0 : Nat} (hk0 : kModel kd k0) {M : Mem} {vo : Int32}   : ∀ (y0 : Int32), mX7_isShort_b11 k0 M y0 = some vo → At p l e (rmO 1 0 0) s m args below meth c 0 0 (MQ below (Qg G kd ad s.heap.size M (some (.int vo))) args s 0 0 (AS kd ad s.heap.size)) G kd ad 4 11 [(0, .ref (ad k0))] [.int y0] M := by
  intro y0 hf H locs ls hI hl
  obtain ⟨hx, hb, hml, hr, hown, hts, hlk, hK, hap, hsx⟩ := id C
  unfold mX7_isShort_b11 at hf
  refine lv_istore_n (lv' := [(3, .int y0), (0, .ref (ad k0))]) hx hb (dc tbX7_isShort_k 7 rfl) rfl hl (by decide) rfl (fun ls hl => ?_)
  refine lv_aload_n hx hb (dc tbX7_isShort_k 8 rfl) rfl (lv_at hl 1 rfl) ?_
  refine gg7_0 hx hb hts hown hK hI hk0.1 q_t7_76 (dc tbX7_isShort_k 9 rfl) ?_
  refine lv_iconst (v := 2) hx hb (dc tbX7_isShort_k 10 rfl) ic_2 ?_
  refine lv_iload_n hx hb (dc tbX7_isShort_k 11 rfl) rfl (lv_at hl 0 rfl) ?_
  refine lv_iadd hx hb (dc tbX7_isShort_k 12 rfl) ?_
  obtain ⟨h2, hf⟩ := chk_s hf
  refine g_iald hx hb hK hI hk0.2.1 (okb_in h2) (dc tbX7_isShort_k 13 rfl) ?_
  refine lv_aload_n hx hb (dc tbX7_isShort_k 14 rfl) rfl (lv_at hl 1 rfl) ?_
  refine lv_iconst (v := 4) hx hb (dc tbX7_isShort_k 15 rfl) ic_4 ?_
  refine lv_iconst (v := 0) hx hb (dc tbX7_isShort_k 16 rfl) ic_0 ?_
  obtain ⟨r4, q3, hf⟩ := cap_s hf
  refine g_callVi hx hb hml hown hts hK hap hsx hI (tX7_toolOf l hk0 q3 H.size) cv_X7_toolOf q_t8_233 rfl rfl ⟨Nat.le_of_ble_eq_true rfl, Nat.le_of_ble_eq_true rfl⟩ hk0.1 (by simp) rfl rfl rfl hl.1 rfl (Nat.le_of_ble_eq_true rfl) (dc tbX7_isShort_k 17 rfl) ⟨Nat.le_of_ble_eq_true rfl, Nat.le_of_ble_eq_true rfl⟩ (fun H locs hI => ?_)
  refine lv_icmp_ge (tgt := 33) hx hb (dc tbX7_isShort_k 18 rfl) rfl (fun c6 => ?_) (fun c6 => ?_)
  · have hf := ite_t c6 hf
    refine lv_iconst (v := 0) hx hb (dc tbX7_isShort_k 21 rfl) ic_0 ?_
    cases hf
    exact g_zret hx hb hr hlk hI rfl (dc tbX7_isShort_k 22 rfl)
  · have hf := ite_f c6 hf
    refine lv_iconst (v := 1) hx hb (dc tbX7_isShort_k 19 rfl) ic_1 ?_
    refine lv_goto (tgt := 34) hx hb (dc tbX7_isShort_k 20 rfl) rfl ?_
    cases hf
    exact g_zret hx hb hr hlk hI rfl (dc tbX7_isShort_k 22 rfl)
def mX7_isShort (k0 : Nat) (x1 : Int32) (x2 : Int32) (M : Mem) : Option Int32 := ite2 (x2 = 0) (mX7_isShort_b11 k0 M (x1 + (1 : Int32))) (mX7_isShort_b11 k0 M x1)
set_option maxHeartbeats 4000000 in
set_option maxRecDepth 100000 in
theorem tX7_isShort (l : Launch) {G : GT} {kd : Nat → Nat × Nat} {ad : Nat → Nat} {k0 : Nat} (hk0 : kModel kd k0) {x1 : Int32} {x2 : Int32} {M : Mem} {vo : Int32} (hf : mX7_isShort k0 x1 x2 M = some vo) (n : Nat) : Met l yX7_isShort (Cond.code yX7_isShort cX7_isShort 4 (some .boolean) :: WA) (rmO 1 0 0) (Pg G kd ad n [.ref (ad k0), .int x1, .int x2] M) (Qg G kd ad n M (some (.int vo))) 0 0 (AS kd ad n) := by
  refine g_body (own := RX7) (by decide) rfl ?_ (Nat.le_of_ble_eq_true rfl)
  intro p e s m args below meth c C _ H locs ls hI hl
  obtain ⟨hx, hb, hml, hr, hown, hts, hlk, hK, hap, hsx⟩ := id C
  have hl : lv_has ls 4 [(0, .ref (ad k0)), (1, .int x1), (2, .int x2)] := hl
  unfold mX7_isShort at hf
  refine lv_iload_n hx hb (dc tbX7_isShort_k 0 rfl) rfl (lv_at hl 2 rfl) ?_
  refine lv_if_ne (tgt := 10) hx hb (dc tbX7_isShort_k 1 rfl) rfl (fun c1 => ?_) (fun c1 => ?_)
  · have hf := ite_f c1 hf
    refine lv_iload_n hx hb (dc tbX7_isShort_k 6 rfl) rfl (lv_at hl 1 rfl) ?_
    exact tX7_isShort_b11 C hk0 x1 hf _ _ _ hI (lv_sub hl [0] rfl)
  · have hf := ite_t c1 hf
    refine lv_iload_n hx hb (dc tbX7_isShort_k 2 rfl) rfl (lv_at hl 1 rfl) ?_
    refine lv_iconst (v := 1) hx hb (dc tbX7_isShort_k 3 rfl) ic_1 ?_
    refine lv_iadd hx hb (dc tbX7_isShort_k 4 rfl) ?_
    refine lv_goto (tgt := 11) hx hb (dc tbX7_isShort_k 5 rfl) rfl ?_
    exact tX7_isShort_b11 C hk0 (x1 + (1 : Int32)) hf _ _ _ hI (lv_sub hl [0] rfl)
theorem cv_X7_isShort : cvF RX7 yX7_isShort cX7_isShort 4 (some .boolean) 2 := ⟨q_t8_231, q_s5_6, q_t1_11, q_t8_232, by decide +kernel⟩
def mX7_isGaugeLaid (k0 : Nat) (x1 : Int32) (x2 : Int32) (M : Mem) : Option Int32 := cap (mX7_gaugeLaid k0 x1 x2 M) (fun r2 => cap (mX7_toolOf k0 (3 : Int32) (0 : Int32) M) (fun r5 => cap (mX7_toolOf k0 (3 : Int32) (1 : Int32) M) (fun r8 => cap (mX7_between (r2).toInt64 (r5).toInt64 (r8).toInt64 M) (fun r11 => chk (isB r11) (some r11)))))
set_option maxHeartbeats 4000000 in
set_option maxRecDepth 100000 in
theorem tX7_isGaugeLaid (l : Launch) {G : GT} {kd : Nat → Nat × Nat} {ad : Nat → Nat} {k0 : Nat} (hk0 : kModel kd k0) {x1 : Int32} {x2 : Int32} {M : Mem} {vo : Int32} (hf : mX7_isGaugeLaid k0 x1 x2 M = some vo) (n : Nat) : Met l yX7_isGaugeLaid (Cond.code yX7_isGaugeLaid cX7_isGaugeLaid 3 (some .boolean) :: WA) (rmO 2 0 0) (Pg G kd ad n [.ref (ad k0), .int x1, .int x2] M) (Qg G kd ad n M (some (.int vo))) 0 0 (AS kd ad n) := by
  refine g_body (own := RX7) (by decide) rfl ?_ (Nat.le_of_ble_eq_true rfl)
  intro p e s m args below meth c C _ H locs ls hI hl
  obtain ⟨hx, hb, hml, hr, hown, hts, hlk, hK, hap, hsx⟩ := id C
  have hl : lv_has ls 3 [(0, .ref (ad k0)), (1, .int x1), (2, .int x2)] := hl
  unfold mX7_isGaugeLaid at hf
  refine lv_aload_n hx hb (dc tbX7_isGaugeLaid_k 0 rfl) rfl (lv_at hl 0 rfl) ?_
  refine lv_iload_n hx hb (dc tbX7_isGaugeLaid_k 1 rfl) rfl (lv_at hl 1 rfl) ?_
  refine lv_iload_n hx hb (dc tbX7_isGaugeLaid_k 2 rfl) rfl (lv_at hl 2 rfl) ?_
  obtain ⟨r2, q1, hf⟩ := cap_s hf
  refine g_callVi hx hb hml hown hts hK hap hsx hI (tX7_gaugeLaid l hk0 q1 H.size) cv_X7_gaugeLaid q_t9_9 rfl rfl ⟨Nat.le_of_ble_eq_true rfl, Nat.le_of_ble_eq_true rfl⟩ hk0.1 (by simp) rfl rfl rfl hl.1 rfl (Nat.le_of_ble_eq_true rfl) (dc tbX7_isGaugeLaid_k 3 rfl) ⟨Nat.le_of_ble_eq_true rfl, Nat.le_of_ble_eq_true rfl⟩ (fun H locs hI => ?_)
  refine lv_i2l hx hb (dc tbX7_isGaugeLaid_k 4 rfl) rfl ?_
  refine lv_aload_n hx hb (dc tbX7_isGaugeLaid_k 5 rfl) rfl (lv_at hl 0 rfl) ?_
  refine lv_iconst (v := 3) hx hb (dc tbX7_isGaugeLaid_k 6 rfl) ic_3 ?_
  refine lv_iconst (v := 0) hx hb (dc tbX7_isGaugeLaid_k 7 rfl) ic_0 ?_
  obtain ⟨r5, q4, hf⟩ := cap_s hf
  refine g_callVi hx hb hml hown hts hK hap hsx hI (tX7_toolOf l hk0 q4 H.size) cv_X7_toolOf q_t8_233 rfl rfl ⟨Nat.le_of_ble_eq_true rfl, Nat.le_of_ble_eq_true rfl⟩ hk0.1 (by simp) rfl rfl rfl hl.1 rfl (Nat.le_of_ble_eq_true rfl) (dc tbX7_isGaugeLaid_k 8 rfl) ⟨Nat.le_of_ble_eq_true rfl, Nat.le_of_ble_eq_true rfl⟩ (fun H locs hI => ?_)
  refine lv_i2l hx hb (dc tbX7_isGaugeLaid_k 9 rfl) rfl ?_
  refine lv_aload_n hx hb (dc tbX7_isGaugeLaid_k 10 rfl) rfl (lv_at hl 0 rfl) ?_
  refine lv_iconst (v := 3) hx hb (dc tbX7_isGaugeLaid_k 11 rfl) ic_3 ?_
  refine lv_iconst (v := 1) hx hb (dc tbX7_isGaugeLaid_k 12 rfl) ic_1 ?_
  obtain ⟨r8, q7, hf⟩ := cap_s hf
  refine g_callVi hx hb hml hown hts hK hap hsx hI (tX7_toolOf l hk0 q7 H.size) cv_X7_toolOf q_t8_233 rfl rfl ⟨Nat.le_of_ble_eq_true rfl, Nat.le_of_ble_eq_true rfl⟩ hk0.1 (by simp) rfl rfl rfl hl.1 rfl (Nat.le_of_ble_eq_true rfl) (dc tbX7_isGaugeLaid_k 13 rfl) ⟨Nat.le_of_ble_eq_true rfl, Nat.le_of_ble_eq_true rfl⟩ (fun H locs hI => ?_)
  refine lv_i2l hx hb (dc tbX7_isGaugeLaid_k 14 rfl) rfl ?_
  obtain ⟨r11, q10, hf⟩ := cap_s hf
  refine g_callSi hx hb hml hown hts hK hap hsx hI (tX7_between l  q10 H.size) cs_X7_between q_t7_190 rfl rfl ⟨Nat.le_of_ble_eq_true rfl, Nat.le_of_ble_eq_true rfl⟩ rfl hl.1 rfl (Nat.le_of_ble_eq_true rfl) (dc tbX7_isGaugeLaid_k 15 rfl) ⟨Nat.le_of_ble_eq_true rfl, Nat.le_of_ble_eq_true rfl⟩ (fun H locs hI => ?_)
  obtain ⟨h13, hf⟩ := chk_s hf
  cases hf
  exact g_zret hx hb hr hlk hI (isB_n h13) (dc tbX7_isGaugeLaid_k 16 rfl)
theorem cv_X7_isGaugeLaid : cvF RX7 yX7_isGaugeLaid cX7_isGaugeLaid 3 (some .boolean) 2 := ⟨q_t9_7, q_s5_10, q_t1_11, q_t9_8, by decide +kernel⟩
def mX7_reasonOf (k0 : Nat) (x1 : Int32) (x2 : Int32) (x3 : Int32) (M : Mem) : Option (Mem × Int32) := cap (mX7_has x3 x1 M) (fun r2 => ite2 (r2 = 0) (cap (mX7_isShort k0 x1 x2 M) (fun r6 => ite2 (r6 = 0) (cal (mX7_laySheet k0 x1 x2 x3 M) (fun M11 _ => cap (mX7_isGaugeLaid k0 x1 x2 M11) (fun r13 => ite2 (r13 = 0) (some (M11, (3 : Int32))) (cap (mX7_hittingLaid k0 x1 x2 (1 : Int32) (0 : Int32) M11) (fun r17 => ite2 (r17 = 0) (cap (mX7_hittingLaid k0 x1 x2 (0 : Int32) (1 : Int32) M11) (fun r21 => ite2 (r21 = 0) (cap (mX7_isCrossed k0 M11) (fun r25 => ite2 (r25 = 0) (some (M11, (0 : Int32))) (some (M11, (6 : Int32))))) (some (M11, (5 : Int32))))) (some (M11, (4 : Int32)))))))) (some (M, (2 : Int32))))) (some (M, (1 : Int32))))
set_option maxHeartbeats 4000000 in
set_option maxRecDepth 100000 in
theorem tX7_reasonOf (l : Launch) {G : GT} {kd : Nat → Nat × Nat} {ad : Nat → Nat} {k0 : Nat} (hk0 : kModel kd k0) {x1 : Int32} {x2 : Int32} {x3 : Int32} {M : Mem} {MO : Mem} {vo : Int32} (hf : mX7_reasonOf k0 x1 x2 x3 M = some (MO, vo)) (n : Nat) : Met l yX7_reasonOf (Cond.code yX7_reasonOf cX7_reasonOf 4 (some .int) :: WA) (rmO 5 0 0) (Pg G kd ad n [.ref (ad k0), .int x1, .int x2, .int x3] M) (Qg G kd ad n MO (some (.int vo))) 0 0 (AS kd ad n) := by
  refine g_body (own := RX7) (by decide) rfl ?_ (Nat.le_of_ble_eq_true rfl)
  intro p e s m args below meth c C _ H locs ls hI hl
  obtain ⟨hx, hb, hml, hr, hown, hts, hlk, hK, hap, hsx⟩ := id C
  have hl : lv_has ls 4 [(0, .ref (ad k0)), (1, .int x1), (2, .int x2), (3, .int x3)] := hl
  unfold mX7_reasonOf at hf
  refine lv_iload_n hx hb (dc tbX7_reasonOf_0_k 0 rfl) rfl (lv_at hl 3 rfl) ?_
  refine lv_iload_n hx hb (dc tbX7_reasonOf_0_k 1 rfl) rfl (lv_at hl 1 rfl) ?_
  obtain ⟨r2, q1, hf⟩ := cap_s hf
  refine g_callSi hx hb hml hown hts hK hap hsx hI (tX7_has l  q1 H.size) cs_X7_has q_t8_226 rfl rfl ⟨Nat.le_of_ble_eq_true rfl, Nat.le_of_ble_eq_true rfl⟩ rfl hl.1 rfl (Nat.le_of_ble_eq_true rfl) (dc tbX7_reasonOf_0_k 2 rfl) ⟨Nat.le_of_ble_eq_true rfl, Nat.le_of_ble_eq_true rfl⟩ (fun H locs hI => ?_)
  refine lv_if_eq (tgt := 10) hx hb (dc tbX7_reasonOf_0_k 3 rfl) rfl (fun c4 => ?_) (fun c4 => ?_)
  · have hf := ite_t c4 hf
    refine lv_aload_n hx hb (dc tbX7_reasonOf_0_k 6 rfl) rfl (lv_at hl 0 rfl) ?_
    refine lv_iload_n hx hb (dc tbX7_reasonOf_0_k 7 rfl) rfl (lv_at hl 1 rfl) ?_
    refine lv_iload_n hx hb (dc tbX7_reasonOf_0_k 8 rfl) rfl (lv_at hl 2 rfl) ?_
    obtain ⟨r6, q5, hf⟩ := cap_s hf
    refine g_callVi hx hb hml hown hts hK hap hsx hI (tX7_isShort l hk0 q5 H.size) cv_X7_isShort q_t8_229 rfl rfl ⟨Nat.le_of_ble_eq_true rfl, Nat.le_of_ble_eq_true rfl⟩ hk0.1 (by simp) rfl rfl rfl hl.1 rfl (Nat.le_of_ble_eq_true rfl) (dc tbX7_reasonOf_0_k 9 rfl) ⟨Nat.le_of_ble_eq_true rfl, Nat.le_of_ble_eq_true rfl⟩ (fun H locs hI => ?_)
    refine lv_if_eq (tgt := 21) hx hb (dc tbX7_reasonOf_0_k 10 rfl) rfl (fun c8 => ?_) (fun c8 => ?_)
    · have hf := ite_t c8 hf
      refine lv_aload_n hx hb (dc tbX7_reasonOf_0_k 13 rfl) rfl (lv_at hl 0 rfl) ?_
      refine lv_iload_n hx hb (dc tbX7_reasonOf_0_k 14 rfl) rfl (lv_at hl 1 rfl) ?_
      refine lv_iload_n hx hb (dc tbX7_reasonOf_0_k 15 rfl) rfl (lv_at hl 2 rfl) ?_
      refine lv_iload_n hx hb (dc tbX7_reasonOf_0_k 16 rfl) rfl (lv_at hl 3 rfl) ?_
      obtain ⟨M11, r10, q9, hf⟩ := cal_s hf
      refine g_callVv hx hb hml hown hts hK hap hsx hI (tX7_laySheet l hk0 q9 H.size) cv_X7_laySheet q_t8_237 rfl rfl ⟨Nat.le_of_ble_eq_true rfl, Nat.le_of_ble_eq_true rfl⟩ hk0.1 (by simp) rfl rfl rfl hl.1 rfl (Nat.le_of_ble_eq_true rfl) (dc tbX7_reasonOf_0_k 17 rfl) ⟨Nat.le_of_ble_eq_true rfl, Nat.le_of_ble_eq_true rfl⟩ (fun H locs hI => ?_)
      refine lv_aload_n hx hb (dc tbX7_reasonOf_0_k 18 rfl) rfl (lv_at hl 0 rfl) ?_
      refine lv_iload_n hx hb (dc tbX7_reasonOf_0_k 19 rfl) rfl (lv_at hl 1 rfl) ?_
      refine lv_iload_n hx hb (dc tbX7_reasonOf_0_k 20 rfl) rfl (lv_at hl 2 rfl) ?_
      obtain ⟨r13, q12, hf⟩ := cap_s hf
      refine g_callVi hx hb hml hown hts hK hap hsx hI (tX7_isGaugeLaid l hk0 q12 H.size) cv_X7_isGaugeLaid q_t9_5 rfl rfl ⟨Nat.le_of_ble_eq_true rfl, Nat.le_of_ble_eq_true rfl⟩ hk0.1 (by simp) rfl rfl rfl hl.1 rfl (Nat.le_of_ble_eq_true rfl) (dc tbX7_reasonOf_0_k 21 rfl) ⟨Nat.le_of_ble_eq_true rfl, Nat.le_of_ble_eq_true rfl⟩ (fun H locs hI => ?_)
      refine lv_if_ne (tgt := 39) hx hb (dc tbX7_reasonOf_0_k 22 rfl) rfl (fun c15 => ?_) (fun c15 => ?_)
      · have hf := ite_f c15 hf
        refine lv_aload_n hx hb (dc tbX7_reasonOf_0_k 25 rfl) rfl (lv_at hl 0 rfl) ?_
        refine lv_iload_n hx hb (dc tbX7_reasonOf_0_k 26 rfl) rfl (lv_at hl 1 rfl) ?_
        refine lv_iload_n hx hb (dc tbX7_reasonOf_0_k 27 rfl) rfl (lv_at hl 2 rfl) ?_
        refine lv_iconst (v := 1) hx hb (dc tbX7_reasonOf_0_k 28 rfl) ic_1 ?_
        refine lv_iconst (v := 0) hx hb (dc tbX7_reasonOf_0_k 29 rfl) ic_0 ?_
        obtain ⟨r17, q16, hf⟩ := cap_s hf
        refine g_callVi hx hb hml hown hts hK hap hsx hI (tX7_hittingLaid l hk0 q16 H.size) cv_X7_hittingLaid q_t9_17 rfl rfl ⟨Nat.le_of_ble_eq_true rfl, Nat.le_of_ble_eq_true rfl⟩ hk0.1 (by simp) rfl rfl rfl hl.1 rfl (Nat.le_of_ble_eq_true rfl) (dc tbX7_reasonOf_0_k 30 rfl) ⟨Nat.le_of_ble_eq_true rfl, Nat.le_of_ble_eq_true rfl⟩ (fun H locs hI => ?_)
        refine lv_if_eq (tgt := 52) hx hb (dc tbX7_reasonOf_0_k 31 rfl) rfl (fun c19 => ?_) (fun c19 => ?_)
        · have hf := ite_t c19 hf
          refine lv_aload_n hx hb (dc tbX7_reasonOf_0_k 34 rfl) rfl (lv_at hl 0 rfl) ?_
          refine lv_iload_n hx hb (dc tbX7_reasonOf_0_k 35 rfl) rfl (lv_at hl 1 rfl) ?_
          refine lv_iload_n hx hb (dc tbX7_reasonOf_0_k 36 rfl) rfl (lv_at hl 2 rfl) ?_
          refine lv_iconst (v := 0) hx hb (dc tbX7_reasonOf_0_k 37 rfl) ic_0 ?_
          refine lv_iconst (v := 1) hx hb (dc tbX7_reasonOf_0_k 38 rfl) ic_1 ?_
          obtain ⟨r21, q20, hf⟩ := cap_s hf
          refine g_callVi hx hb hml hown hts hK hap hsx hI (tX7_hittingLaid l hk0 q20 H.size) cv_X7_hittingLaid q_t9_17 rfl rfl ⟨Nat.le_of_ble_eq_true rfl, Nat.le_of_ble_eq_true rfl⟩ hk0.1 (by simp) rfl rfl rfl hl.1 rfl (Nat.le_of_ble_eq_true rfl) (dc tbX7_reasonOf_0_k 39 rfl) ⟨Nat.le_of_ble_eq_true rfl, Nat.le_of_ble_eq_true rfl⟩ (fun H locs hI => ?_)
          refine lv_if_eq (tgt := 65) hx hb (dc tbX7_reasonOf_1_k 0 rfl) rfl (fun c23 => ?_) (fun c23 => ?_)
          · have hf := ite_t c23 hf
            refine lv_aload_n hx hb (dc tbX7_reasonOf_1_k 3 rfl) rfl (lv_at hl 0 rfl) ?_
            obtain ⟨r25, q24, hf⟩ := cap_s hf
            refine g_callVi hx hb hml hown hts hK hap hsx hI (tX7_isCrossed l hk0 q24 H.size) cv_X7_isCrossed q_t8_175 rfl rfl ⟨Nat.le_of_ble_eq_true rfl, Nat.le_of_ble_eq_true rfl⟩ hk0.1 (by simp) rfl rfl rfl hl.1 rfl (Nat.le_of_ble_eq_true rfl) (dc tbX7_reasonOf_1_k 4 rfl) ⟨Nat.le_of_ble_eq_true rfl, Nat.le_of_ble_eq_true rfl⟩ (fun H locs hI => ?_)
            refine lv_if_eq (tgt := 77) hx hb (dc tbX7_reasonOf_1_k 5 rfl) rfl (fun c27 => ?_) (fun c27 => ?_)
            · have hf := ite_t c27 hf
              refine lv_iconst (v := 0) hx hb (dc tbX7_reasonOf_1_k 8 rfl) ic_0 ?_
              cases hf
              exact g_iret hx hb hr hlk hI (dc tbX7_reasonOf_1_k 9 rfl)
            · have hf := ite_f c27 hf
              refine lv_bipush (v := 6) hx hb (dc tbX7_reasonOf_1_k 6 rfl) bp_6 ?_
              refine lv_goto (tgt := 78) hx hb (dc tbX7_reasonOf_1_k 7 rfl) rfl ?_
              cases hf
              exact g_iret hx hb hr hlk hI (dc tbX7_reasonOf_1_k 9 rfl)
          · have hf := ite_f c23 hf
            refine lv_iconst (v := 5) hx hb (dc tbX7_reasonOf_1_k 1 rfl) ic_5 ?_
            cases hf
            exact g_iret hx hb hr hlk hI (dc tbX7_reasonOf_1_k 2 rfl)
        · have hf := ite_f c19 hf
          refine lv_iconst (v := 4) hx hb (dc tbX7_reasonOf_0_k 32 rfl) ic_4 ?_
          cases hf
          exact g_iret hx hb hr hlk hI (dc tbX7_reasonOf_0_k 33 rfl)
      · have hf := ite_t c15 hf
        refine lv_iconst (v := 3) hx hb (dc tbX7_reasonOf_0_k 23 rfl) ic_3 ?_
        cases hf
        exact g_iret hx hb hr hlk hI (dc tbX7_reasonOf_0_k 24 rfl)
    · have hf := ite_f c8 hf
      refine lv_iconst (v := 2) hx hb (dc tbX7_reasonOf_0_k 11 rfl) ic_2 ?_
      cases hf
      exact g_iret hx hb hr hlk hI (dc tbX7_reasonOf_0_k 12 rfl)
  · have hf := ite_f c4 hf
    refine lv_iconst (v := 1) hx hb (dc tbX7_reasonOf_0_k 4 rfl) ic_1 ?_
    cases hf
    exact g_iret hx hb hr hlk hI (dc tbX7_reasonOf_0_k 5 rfl)
theorem cv_X7_reasonOf : cvF RX7 yX7_reasonOf cX7_reasonOf 4 (some .int) 3 := ⟨q_t8_224, q_s5_5, q_t1_11, q_t8_225, by decide +kernel⟩
def mX7_layFinished_b66 (k0 : Nat) (ih14 : Int32 → Int32 → Mem → Option (Mem × Unit)) (x2 : Int32) (y0 : Int32) (M : Mem) : Option (Mem × Unit) := bnd (x2 + (1 : Int32)) (fun x2_67 => ih14 y0 x2_67 M)
set_option maxHeartbeats 4000000 in
set_option maxRecDepth 100000 in
theorem tX7_layFinished_b66 {p : Program} {l : Launch} {e : Env} {s : State} {m : MethodId} {args : Array Value} {below : List Frame} {meth : Method} {c : Code} {G : GT} {kd : Nat → Nat × Nat} {ad : Nat → Nat} (C : Cx p s m args meth c cX7_layFinished 3 none RX7 G kd ad) {k0 : Nat} (hk0 : kModel kd k0) {MO : Mem} {vo : Unit} {ih14 : Int32 → Int32 → Mem → Option (Mem × Unit)} (hih14 : ∀ (x1 : Int32) (x2 : Int32) (M : Mem), ih14 x1 x2 M = some (MO, vo) → At p l e (rmO 2 0 0) s m args below meth c 0 0 (MQ below (Qg G kd ad s.heap.size MO none) args s 0 0 (AS kd ad s.heap.size)) G kd ad 3 14 [(0, .ref (ad k0)), (1, .int x1), (2, .int x2)] [] M) : ∀ (x2 : Int32) (y0 : Int32) (M : Mem), mX7_layFinished_b66 k0 ih14 x2 y0 M = some (MO, vo) → At p l e (rmO 2 0 0) s m args below meth c 0 0 (MQ below (Qg G kd ad s.heap.size MO none) args s 0 0 (AS kd ad s.heap.size)) G kd ad 3 66 [(0, .ref (ad k0)), (2, .int x2)] [.int y0] M := by
  intro x2 y0 M hf H locs ls hI hl
  obtain ⟨hx, hb, hml, hr, hown, hts, hlk, hK, hap, hsx⟩ := id C
  unfold mX7_layFinished_b66 at hf
  refine lv_istore_n (lv' := [(1, .int y0), (0, .ref (ad k0)), (2, .int x2)]) hx hb (dc tbX7_layFinished_1_k 3 rfl) rfl hl (by decide) rfl (fun ls hl => ?_)
  obtain ⟨x2_67, e14, hf⟩ := bnd_s hf
  refine lv_iinc (v := x2_67) (lv' := [(2, .int x2_67), (1, .int y0), (0, .ref (ad k0))]) hx hb (dc tbX7_layFinished_1_k 4 rfl) hl (k := 2) rfl (ii_e e14 ic_1) (by decide) rfl (fun ls hl => ?_)
  refine lv_goto (tgt := 14) hx hb (dc tbX7_layFinished_1_k 5 rfl) rfl ?_
  exact hih14 y0 x2_67 M hf _ _ _ hI (lv_sub hl [2, 1, 0] rfl)
def mX7_layFinished_b63 (k0 : Nat) (ih14 : Int32 → Int32 → Mem → Option (Mem × Unit)) (x2 : Int32) (y0 : Int32) (y1 : Int32) (M : Mem) : Option (Mem × Unit) := mX7_layFinished_b66 k0 ih14 x2 ((y0 + y1) - (y0 + y1) / (4 : Int32) * (4 : Int32)) M
set_option maxHeartbeats 4000000 in
set_option maxRecDepth 100000 in
theorem tX7_layFinished_b63 {p : Program} {l : Launch} {e : Env} {s : State} {m : MethodId} {args : Array Value} {below : List Frame} {meth : Method} {c : Code} {G : GT} {kd : Nat → Nat × Nat} {ad : Nat → Nat} (C : Cx p s m args meth c cX7_layFinished 3 none RX7 G kd ad) {k0 : Nat} (hk0 : kModel kd k0) {MO : Mem} {vo : Unit} {ih14 : Int32 → Int32 → Mem → Option (Mem × Unit)} (hih14 : ∀ (x1 : Int32) (x2 : Int32) (M : Mem), ih14 x1 x2 M = some (MO, vo) → At p l e (rmO 2 0 0) s m args below meth c 0 0 (MQ below (Qg G kd ad s.heap.size MO none) args s 0 0 (AS kd ad s.heap.size)) G kd ad 3 14 [(0, .ref (ad k0)), (1, .int x1), (2, .int x2)] [] M) : ∀ (x2 : Int32) (y0 : Int32) (y1 : Int32) (M : Mem), mX7_layFinished_b63 k0 ih14 x2 y0 y1 M = some (MO, vo) → At p l e (rmO 2 0 0) s m args below meth c 0 0 (MQ below (Qg G kd ad s.heap.size MO none) args s 0 0 (AS kd ad s.heap.size)) G kd ad 3 63 [(0, .ref (ad k0)), (2, .int x2)] [.int y1, .int y0] M := by
  intro x2 y0 y1 M hf H locs ls hI hl
  obtain ⟨hx, hb, hml, hr, hown, hts, hlk, hK, hap, hsx⟩ := id C
  unfold mX7_layFinished_b63 at hf
  refine lv_iadd hx hb (dc tbX7_layFinished_1_k 0 rfl) ?_
  refine lv_iconst (v := 4) hx hb (dc tbX7_layFinished_1_k 1 rfl) ic_4 ?_
  refine lv_irem hx hb (dc tbX7_layFinished_1_k 2 rfl) (by decide) ?_
  exact tX7_layFinished_b66 C hk0 hih14 x2 ((y0 + y1) - (y0 + y1) / (4 : Int32) * (4 : Int32)) M hf _ _ _ hI (lv_sub hl [0, 1] rfl)
def mX7_layFinished_b14 (k0 : Nat) (ih14 : Int32 → Int32 → Mem → Option (Mem × Unit)) (x1 : Int32) (x2 : Int32) (M : Mem) : Option (Mem × Unit) := chk (okb (1 : Int32) 86) (ite2 ((rd M (k0 + 1) ((1 : Int32)).toNatClampNeg) ≤ x2) (some (M, ())) (cal (mX7_layLeg k0 x2 x1 M) (fun M9 _ => chk (okb (0 : Int32) 86) (ite2 (x2 = (rd M9 (k0 + 1) ((0 : Int32)).toNatClampNeg)) (mX7_layFinished_b66 k0 ih14 x2 x1 M9) (chk (okb ((11 : Int32) + x2) 86) (ite2 ((rd M9 (k0 + 1) (((11 : Int32) + x2)).toNatClampNeg) = (1 : Int32)) (mX7_layFinished_b63 k0 ih14 x2 x1 (3 : Int32) M9) (mX7_layFinished_b63 k0 ih14 x2 x1 (1 : Int32) M9)))))))
set_option maxHeartbeats 4000000 in
set_option maxRecDepth 100000 in
theorem tX7_layFinished_b14 {p : Program} {l : Launch} {e : Env} {s : State} {m : MethodId} {args : Array Value} {below : List Frame} {meth : Method} {c : Code} {G : GT} {kd : Nat → Nat × Nat} {ad : Nat → Nat} (C : Cx p s m args meth c cX7_layFinished 3 none RX7 G kd ad) {k0 : Nat} (hk0 : kModel kd k0) {MO : Mem} {vo : Unit} {ih14 : Int32 → Int32 → Mem → Option (Mem × Unit)} (hih14 : ∀ (x1 : Int32) (x2 : Int32) (M : Mem), ih14 x1 x2 M = some (MO, vo) → At p l e (rmO 2 0 0) s m args below meth c 0 0 (MQ below (Qg G kd ad s.heap.size MO none) args s 0 0 (AS kd ad s.heap.size)) G kd ad 3 14 [(0, .ref (ad k0)), (1, .int x1), (2, .int x2)] [] M) : ∀ (x1 : Int32) (x2 : Int32) (M : Mem), mX7_layFinished_b14 k0 ih14 x1 x2 M = some (MO, vo) → At p l e (rmO 2 0 0) s m args below meth c 0 0 (MQ below (Qg G kd ad s.heap.size MO none) args s 0 0 (AS kd ad s.heap.size)) G kd ad 3 14 [(0, .ref (ad k0)), (1, .int x1), (2, .int x2)] [] M := by
  intro x1 x2 M hf H locs ls hI hl
  obtain ⟨hx, hb, hml, hr, hown, hts, hlk, hK, hap, hsx⟩ := id C
  unfold mX7_layFinished_b14 at hf
  refine lv_iload_n hx hb (dc tbX7_layFinished_0_k 10 rfl) rfl (lv_at hl 2 rfl) ?_
  refine lv_aload_n hx hb (dc tbX7_layFinished_0_k 11 rfl) rfl (lv_at hl 0 rfl) ?_
  refine gg7_0 hx hb hts hown hK hI hk0.1 q_t7_76 (dc tbX7_layFinished_0_k 12 rfl) ?_
  refine lv_iconst (v := 1) hx hb (dc tbX7_layFinished_0_k 13 rfl) ic_1 ?_
  obtain ⟨h5, hf⟩ := chk_s hf
  refine g_iald hx hb hK hI hk0.2.1 (okb_in h5) (dc tbX7_layFinished_0_k 14 rfl) ?_
  refine lv_icmp_ge (tgt := 73) hx hb (dc tbX7_layFinished_0_k 15 rfl) rfl (fun c6 => ?_) (fun c6 => ?_)
  · have hf := ite_t c6 hf
    cases hf
    exact g_vret hx hb hr hlk hI (dc tbX7_layFinished_1_k 6 rfl)
  · have hf := ite_f c6 hf
    refine lv_aload_n hx hb (dc tbX7_layFinished_0_k 16 rfl) rfl (lv_at hl 0 rfl) ?_
    refine lv_iload_n hx hb (dc tbX7_layFinished_0_k 17 rfl) rfl (lv_at hl 2 rfl) ?_
    refine lv_iload_n hx hb (dc tbX7_layFinished_0_k 18 rfl) rfl (lv_at hl 1 rfl) ?_
    obtain ⟨M9, r8, q7, hf⟩ := cal_s hf
    refine g_callVv hx hb hml hown hts hK hap hsx hI (tX7_layLeg l hk0 q7 H.size) cv_X7_layLeg q_t8_155 rfl rfl ⟨Nat.le_of_ble_eq_true rfl, Nat.le_of_ble_eq_true rfl⟩ hk0.1 (by simp) rfl rfl rfl hl.1 rfl (Nat.le_of_ble_eq_true rfl) (dc tbX7_layFinished_0_k 19 rfl) ⟨Nat.le_of_ble_eq_true rfl, Nat.le_of_ble_eq_true rfl⟩ (fun H locs hI => ?_)
    refine lv_iload_n hx hb (dc tbX7_layFinished_0_k 20 rfl) rfl (lv_at hl 2 rfl) ?_
    refine lv_aload_n hx hb (dc tbX7_layFinished_0_k 21 rfl) rfl (lv_at hl 0 rfl) ?_
    refine gg7_0 hx hb hts hown hK hI hk0.1 q_t7_76 (dc tbX7_layFinished_0_k 22 rfl) ?_
    refine lv_iconst (v := 0) hx hb (dc tbX7_layFinished_0_k 23 rfl) ic_0 ?_
    obtain ⟨h10, hf⟩ := chk_s hf
    refine g_iald hx hb hK hI hk0.2.1 (okb_in h10) (dc tbX7_layFinished_0_k 24 rfl) ?_
    refine lv_icmp_ne (tgt := 44) hx hb (dc tbX7_layFinished_0_k 25 rfl) rfl (fun c11 => ?_) (fun c11 => ?_)
    · have hf := ite_f c11 hf
      refine lv_iload_n hx hb (dc tbX7_layFinished_0_k 28 rfl) rfl (lv_at hl 1 rfl) ?_
      refine lv_aload_n hx hb (dc tbX7_layFinished_0_k 29 rfl) rfl (lv_at hl 0 rfl) ?_
      refine gg7_0 hx hb hts hown hK hI hk0.1 q_t7_76 (dc tbX7_layFinished_0_k 30 rfl) ?_
      refine lv_bipush (v := 11) hx hb (dc tbX7_layFinished_0_k 31 rfl) bp_11 ?_
      refine lv_iload_n hx hb (dc tbX7_layFinished_0_k 32 rfl) rfl (lv_at hl 2 rfl) ?_
      refine lv_iadd hx hb (dc tbX7_layFinished_0_k 33 rfl) ?_
      obtain ⟨h12, hf⟩ := chk_s hf
      refine g_iald hx hb hK hI hk0.2.1 (okb_in h12) (dc tbX7_layFinished_0_k 34 rfl) ?_
      refine lv_iconst (v := 1) hx hb (dc tbX7_layFinished_0_k 35 rfl) ic_1 ?_
      refine lv_icmp_ne (tgt := 62) hx hb (dc tbX7_layFinished_0_k 36 rfl) rfl (fun c13 => ?_) (fun c13 => ?_)
      · have hf := ite_f c13 hf
        refine lv_iconst (v := 1) hx hb (dc tbX7_layFinished_0_k 39 rfl) ic_1 ?_
        exact tX7_layFinished_b63 C hk0 hih14 x2 x1 (1 : Int32) M9 hf _ _ _ hI (lv_sub hl [0, 2] rfl)
      · have hf := ite_t c13 hf
        refine lv_iconst (v := 3) hx hb (dc tbX7_layFinished_0_k 37 rfl) ic_3 ?_
        refine lv_goto (tgt := 63) hx hb (dc tbX7_layFinished_0_k 38 rfl) rfl ?_
        exact tX7_layFinished_b63 C hk0 hih14 x2 x1 (3 : Int32) M9 hf _ _ _ hI (lv_sub hl [0, 2] rfl)
    · have hf := ite_t c11 hf
      refine lv_iload_n hx hb (dc tbX7_layFinished_0_k 26 rfl) rfl (lv_at hl 1 rfl) ?_
      refine lv_goto (tgt := 66) hx hb (dc tbX7_layFinished_0_k 27 rfl) rfl ?_
      exact tX7_layFinished_b66 C hk0 hih14 x2 x1 M9 hf _ _ _ hI (lv_sub hl [0, 2] rfl)
def mX7_layFinished_l14 (k0 : Nat) : Nat → Int32 → Int32 → Mem → Option (Mem × Unit)
  | 0 => fun _ _ _ => none
  | n + 1 => mX7_layFinished_b14 k0 (mX7_layFinished_l14 k0 n)
theorem tX7_layFinished_l14 {p : Program} {l : Launch} {e : Env} {s : State} {m : MethodId} {args : Array Value} {below : List Frame} {meth : Method} {c : Code} {G : GT} {kd : Nat → Nat × Nat} {ad : Nat → Nat} (C : Cx p s m args meth c cX7_layFinished 3 none RX7 G kd ad) {k0 : Nat} (hk0 : kModel kd k0) {MO : Mem} {vo : Unit}   : ∀ (fuel : Nat) (x1 : Int32) (x2 : Int32) (M : Mem), mX7_layFinished_l14 k0 fuel x1 x2 M = some (MO, vo) → At p l e (rmO 2 0 0) s m args below meth c 0 0 (MQ below (Qg G kd ad s.heap.size MO none) args s 0 0 (AS kd ad s.heap.size)) G kd ad 3 14 [(0, .ref (ad k0)), (1, .int x1), (2, .int x2)] [] M := by
  intro fuel
  induction fuel with
  | zero => intro x1 x2 M hf; cases hf
  | succ n IH => exact tX7_layFinished_b14 C hk0 IH
def mX7_layFinished (k0 : Nat) (M : Mem) : Option (Mem × Unit) := bnd (wr M k0 21 (0 : Int32)) (fun M1 => bnd (wr M1 k0 22 (0 : Int32)) (fun M3 => mX7_layFinished_l14 k0 5000 (1 : Int32) (0 : Int32) M3))
set_option maxHeartbeats 4000000 in
set_option maxRecDepth 100000 in
theorem tX7_layFinished (l : Launch) {G : GT} {kd : Nat → Nat × Nat} {ad : Nat → Nat} {k0 : Nat} (hk0 : kModel kd k0) {M : Mem} {MO : Mem} {vo : Unit} (hf : mX7_layFinished k0 M = some (MO, vo)) (n : Nat) : Met l yX7_layFinished (Cond.code yX7_layFinished cX7_layFinished 3 none :: WA) (rmO 2 0 0) (Pg G kd ad n [.ref (ad k0)] M) (Qg G kd ad n MO none) 0 0 (AS kd ad n) := by
  refine g_body (own := RX7) (by decide) rfl ?_ (Nat.le_of_ble_eq_true rfl)
  intro p e s m args below meth c C _ H locs ls hI hl
  obtain ⟨hx, hb, hml, hr, hown, hts, hlk, hK, hap, hsx⟩ := id C
  have hl : lv_has ls 3 [(0, .ref (ad k0))] := hl
  unfold mX7_layFinished at hf
  refine lv_iconst (v := 1) hx hb (dc tbX7_layFinished_0_k 0 rfl) ic_1 ?_
  refine lv_istore_n (lv' := [(1, .int (1 : Int32)), (0, .ref (ad k0))]) hx hb (dc tbX7_layFinished_0_k 1 rfl) rfl hl (by decide) rfl (fun ls hl => ?_)
  refine lv_aload_n hx hb (dc tbX7_layFinished_0_k 2 rfl) rfl (lv_at hl 1 rfl) ?_
  refine lv_iconst (v := 0) hx hb (dc tbX7_layFinished_0_k 3 rfl) ic_0 ?_
  obtain ⟨M1, e2, hf⟩ := bnd_s hf
  refine gp7_21 hx hb hts hown hK hap hI hk0.1 q_t7_97 (dc tbX7_layFinished_0_k 4 rfl) e2 (fun H locs hI => ?_)
  refine lv_aload_n hx hb (dc tbX7_layFinished_0_k 5 rfl) rfl (lv_at hl 1 rfl) ?_
  refine lv_iconst (v := 0) hx hb (dc tbX7_layFinished_0_k 6 rfl) ic_0 ?_
  obtain ⟨M3, e4, hf⟩ := bnd_s hf
  refine gp7_22 hx hb hts hown hK hap hI hk0.1 q_t7_98 (dc tbX7_layFinished_0_k 7 rfl) e4 (fun H locs hI => ?_)
  refine lv_iconst (v := 0) hx hb (dc tbX7_layFinished_0_k 8 rfl) ic_0 ?_
  refine lv_istore_n (lv' := [(2, .int (0 : Int32)), (1, .int (1 : Int32)), (0, .ref (ad k0))]) hx hb (dc tbX7_layFinished_0_k 9 rfl) rfl hl (by decide) rfl (fun ls hl => ?_)
  exact tX7_layFinished_l14 C hk0 5000 (1 : Int32) (0 : Int32) M3 hf _ _ _ hI (lv_sub hl [2, 1, 0] rfl)
theorem cv_X7_layFinished : cvF RX7 yX7_layFinished cX7_layFinished 3 none 0 := ⟨q_t8_153, q_s4_15, q_t1_11, q_t8_154, by decide +kernel⟩
def mX7_finishedWidth_b15 (k0 : Nat) (ih15 : Int32 → Int32 → Int32 → Mem → Option (Mem × Int32)) (x1 : Int32) (x2 : Int32) (x3 : Int32) (M : Mem) : Option (Mem × Int32) := chk (okb (1 : Int32) 86) (ite2 ((rd M (k0 + 1) ((1 : Int32)).toNatClampNeg) ≤ x3) (some (M, (x2 - x1))) (chk (okb x3 9) (bnd ((imin x1 (rd M (k0 + 8) (x3).toNatClampNeg))) (fun x1_35 => chk (okb x3 9) (bnd ((imax x2 (rd M (k0 + 8) (x3).toNatClampNeg))) (fun x2_46 => bnd (x3 + (1 : Int32)) (fun x3_47 => ih15 x1_35 x2_46 x3_47 M)))))))
set_option maxHeartbeats 4000000 in
set_option maxRecDepth 100000 in
theorem tX7_finishedWidth_b15 {p : Program} {l : Launch} {e : Env} {s : State} {m : MethodId} {args : Array Value} {below : List Frame} {meth : Method} {c : Code} {G : GT} {kd : Nat → Nat × Nat} {ad : Nat → Nat} (C : Cx p s m args meth c cX7_finishedWidth 4 (some .int) RX7 G kd ad) {k0 : Nat} (hk0 : kModel kd k0) {MO : Mem} {vo : Int32} {ih15 : Int32 → Int32 → Int32 → Mem → Option (Mem × Int32)} (hih15 : ∀ (x1 : Int32) (x2 : Int32) (x3 : Int32) (M : Mem), ih15 x1 x2 x3 M = some (MO, vo) → At p l e (rmO 3 0 0) s m args below meth c 0 0 (MQ below (Qg G kd ad s.heap.size MO (some (.int vo))) args s 0 0 (AS kd ad s.heap.size)) G kd ad 4 15 [(0, .ref (ad k0)), (1, .int x1), (2, .int x2), (3, .int x3)] [] M) : ∀ (x1 : Int32) (x2 : Int32) (x3 : Int32) (M : Mem), mX7_finishedWidth_b15 k0 ih15 x1 x2 x3 M = some (MO, vo) → At p l e (rmO 3 0 0) s m args below meth c 0 0 (MQ below (Qg G kd ad s.heap.size MO (some (.int vo))) args s 0 0 (AS kd ad s.heap.size)) G kd ad 4 15 [(0, .ref (ad k0)), (1, .int x1), (2, .int x2), (3, .int x3)] [] M := by
  intro x1 x2 x3 M hf H locs ls hI hl
  obtain ⟨hx, hb, hml, hr, hown, hts, hlk, hK, hap, hsx⟩ := id C
  unfold mX7_finishedWidth_b15 at hf
  refine lv_iload_n hx hb (dc tbX7_finishedWidth_k 11 rfl) rfl (lv_at hl 3 rfl) ?_
  refine lv_aload_n hx hb (dc tbX7_finishedWidth_k 12 rfl) rfl (lv_at hl 0 rfl) ?_
  refine gg7_0 hx hb hts hown hK hI hk0.1 q_t7_76 (dc tbX7_finishedWidth_k 13 rfl) ?_
  refine lv_iconst (v := 1) hx hb (dc tbX7_finishedWidth_k 14 rfl) ic_1 ?_
  obtain ⟨h6, hf⟩ := chk_s hf
  refine g_iald hx hb hK hI hk0.2.1 (okb_in h6) (dc tbX7_finishedWidth_k 15 rfl) ?_
  refine lv_icmp_ge (tgt := 53) hx hb (dc tbX7_finishedWidth_k 16 rfl) rfl (fun c7 => ?_) (fun c7 => ?_)
  · have hf := ite_t c7 hf
    refine lv_iload_n hx hb (dc tbX7_finishedWidth_k 33 rfl) rfl (lv_at hl 2 rfl) ?_
    refine lv_iload_n hx hb (dc tbX7_finishedWidth_k 34 rfl) rfl (lv_at hl 1 rfl) ?_
    refine lv_isub hx hb (dc tbX7_finishedWidth_k 35 rfl) ?_
    cases hf
    exact g_iret hx hb hr hlk hI (dc tbX7_finishedWidth_k 36 rfl)
  · have hf := ite_f c7 hf
    refine lv_iload_n hx hb (dc tbX7_finishedWidth_k 17 rfl) rfl (lv_at hl 1 rfl) ?_
    refine lv_aload_n hx hb (dc tbX7_finishedWidth_k 18 rfl) rfl (lv_at hl 0 rfl) ?_
    refine gg7_19 hx hb hts hown hK hI hk0.1 q_t7_95 (dc tbX7_finishedWidth_k 19 rfl) ?_
    refine lv_iload_n hx hb (dc tbX7_finishedWidth_k 20 rfl) rfl (lv_at hl 3 rfl) ?_
    obtain ⟨h8, hf⟩ := chk_s hf
    refine g_iald hx hb hK hI hk0.2.2.2.2.2.2.2.2.1 (okb_in h8) (dc tbX7_finishedWidth_k 21 rfl) ?_
    refine va_mmin hx hb (hml.trans hl.1.symm) hown (hts _ q_t8_165) (hts _ q_t2_200) (hts _ q_t1_22) (hts _ q_t2_201) (Nat.le_of_ble_eq_true rfl) (Nat.le_of_ble_eq_true rfl) (Nat.le_of_ble_eq_true rfl) (Nat.le_of_ble_eq_true rfl) (dc tbX7_finishedWidth_k 22 rfl) ?_
    refine lv_et (show (if _ then _ else _) = (imin x1 (rd M (k0 + 8) (x3).toNatClampNeg)) from rfl) ?_
    obtain ⟨x1_35, e9, hf⟩ := bnd_s hf
    refine lv_ei e9 ?_
    refine lv_istore_n (lv' := [(1, .int x1_35), (0, .ref (ad k0)), (2, .int x2), (3, .int x3)]) hx hb (dc tbX7_finishedWidth_k 23 rfl) rfl hl (by decide) rfl (fun ls hl => ?_)
    refine lv_iload_n hx hb (dc tbX7_finishedWidth_k 24 rfl) rfl (lv_at hl 2 rfl) ?_
    refine lv_aload_n hx hb (dc tbX7_finishedWidth_k 25 rfl) rfl (lv_at hl 1 rfl) ?_
    refine gg7_19 hx hb hts hown hK hI hk0.1 q_t7_95 (dc tbX7_finishedWidth_k 26 rfl) ?_
    refine lv_iload_n hx hb (dc tbX7_finishedWidth_k 27 rfl) rfl (lv_at hl 3 rfl) ?_
    obtain ⟨h10, hf⟩ := chk_s hf
    refine g_iald hx hb hK hI hk0.2.2.2.2.2.2.2.2.1 (okb_in h10) (dc tbX7_finishedWidth_k 28 rfl) ?_
    refine va_mmax hx hb (hml.trans hl.1.symm) hown (hts _ q_t8_166) (hts _ q_t2_203) (hts _ q_t1_22) (hts _ q_t2_204) (Nat.le_of_ble_eq_true rfl) (Nat.le_of_ble_eq_true rfl) (Nat.le_of_ble_eq_true rfl) (Nat.le_of_ble_eq_true rfl) (dc tbX7_finishedWidth_k 29 rfl) ?_
    refine lv_et (show (if _ then _ else _) = (imax x2 (rd M (k0 + 8) (x3).toNatClampNeg)) from rfl) ?_
    obtain ⟨x2_46, e11, hf⟩ := bnd_s hf
    refine lv_ei e11 ?_
    refine lv_istore_n (lv' := [(2, .int x2_46), (1, .int x1_35), (0, .ref (ad k0)), (3, .int x3)]) hx hb (dc tbX7_finishedWidth_k 30 rfl) rfl hl (by decide) rfl (fun ls hl => ?_)
    obtain ⟨x3_47, e12, hf⟩ := bnd_s hf
    refine lv_iinc (v := x3_47) (lv' := [(3, .int x3_47), (2, .int x2_46), (1, .int x1_35), (0, .ref (ad k0))]) hx hb (dc tbX7_finishedWidth_k 31 rfl) hl (k := 3) rfl (ii_e e12 ic_1) (by decide) rfl (fun ls hl => ?_)
    refine lv_goto (tgt := 15) hx hb (dc tbX7_finishedWidth_k 32 rfl) rfl ?_
    exact hih15 x1_35 x2_46 x3_47 M hf _ _ _ hI (lv_sub hl [3, 2, 1, 0] rfl)
def mX7_finishedWidth_l15 (k0 : Nat) : Nat → Int32 → Int32 → Int32 → Mem → Option (Mem × Int32)
  | 0 => fun _ _ _ _ => none
  | n + 1 => mX7_finishedWidth_b15 k0 (mX7_finishedWidth_l15 k0 n)
theorem tX7_finishedWidth_l15 {p : Program} {l : Launch} {e : Env} {s : State} {m : MethodId} {args : Array Value} {below : List Frame} {meth : Method} {c : Code} {G : GT} {kd : Nat → Nat × Nat} {ad : Nat → Nat} (C : Cx p s m args meth c cX7_finishedWidth 4 (some .int) RX7 G kd ad) {k0 : Nat} (hk0 : kModel kd k0) {MO : Mem} {vo : Int32}   : ∀ (fuel : Nat) (x1 : Int32) (x2 : Int32) (x3 : Int32) (M : Mem), mX7_finishedWidth_l15 k0 fuel x1 x2 x3 M = some (MO, vo) → At p l e (rmO 3 0 0) s m args below meth c 0 0 (MQ below (Qg G kd ad s.heap.size MO (some (.int vo))) args s 0 0 (AS kd ad s.heap.size)) G kd ad 4 15 [(0, .ref (ad k0)), (1, .int x1), (2, .int x2), (3, .int x3)] [] M := by
  intro fuel
  induction fuel with
  | zero => intro x1 x2 x3 M hf; cases hf
  | succ n IH => exact tX7_finishedWidth_b15 C hk0 IH
def mX7_finishedWidth (k0 : Nat) (M : Mem) : Option (Mem × Int32) := bnd (wr M k0 5 (0 : Int32)) (fun M1 => cal (mX7_layFinished k0 M1) (fun M5 _ => mX7_finishedWidth_l15 k0 5000 (0 : Int32) (0 : Int32) (0 : Int32) M5))
set_option maxHeartbeats 4000000 in
set_option maxRecDepth 100000 in
theorem tX7_finishedWidth (l : Launch) {G : GT} {kd : Nat → Nat × Nat} {ad : Nat → Nat} {k0 : Nat} (hk0 : kModel kd k0) {M : Mem} {MO : Mem} {vo : Int32} (hf : mX7_finishedWidth k0 M = some (MO, vo)) (n : Nat) : Met l yX7_finishedWidth (Cond.code yX7_finishedWidth cX7_finishedWidth 4 (some .int) :: WA) (rmO 3 0 0) (Pg G kd ad n [.ref (ad k0)] M) (Qg G kd ad n MO (some (.int vo))) 0 0 (AS kd ad n) := by
  refine g_body (own := RX7) (by decide) rfl ?_ (Nat.le_of_ble_eq_true rfl)
  intro p e s m args below meth c C _ H locs ls hI hl
  obtain ⟨hx, hb, hml, hr, hown, hts, hlk, hK, hap, hsx⟩ := id C
  have hl : lv_has ls 4 [(0, .ref (ad k0))] := hl
  unfold mX7_finishedWidth at hf
  refine lv_aload_n hx hb (dc tbX7_finishedWidth_k 0 rfl) rfl (lv_at hl 0 rfl) ?_
  refine lv_iconst (v := 0) hx hb (dc tbX7_finishedWidth_k 1 rfl) ic_0 ?_
  obtain ⟨M1, e2, hf⟩ := bnd_s hf
  refine gp7_5 hx hb hts hown hK hap hI hk0.1 q_t7_81 (dc tbX7_finishedWidth_k 2 rfl) e2 (fun H locs hI => ?_)
  refine lv_aload_n hx hb (dc tbX7_finishedWidth_k 3 rfl) rfl (lv_at hl 0 rfl) ?_
  obtain ⟨M5, r4, q3, hf⟩ := cal_s hf
  refine g_callVv hx hb hml hown hts hK hap hsx hI (tX7_layFinished l hk0 q3 H.size) cv_X7_layFinished q_t8_151 rfl rfl ⟨Nat.le_of_ble_eq_true rfl, Nat.le_of_ble_eq_true rfl⟩ hk0.1 (by simp) rfl rfl rfl hl.1 rfl (Nat.le_of_ble_eq_true rfl) (dc tbX7_finishedWidth_k 4 rfl) ⟨Nat.le_of_ble_eq_true rfl, Nat.le_of_ble_eq_true rfl⟩ (fun H locs hI => ?_)
  refine lv_iconst (v := 0) hx hb (dc tbX7_finishedWidth_k 5 rfl) ic_0 ?_
  refine lv_istore_n (lv' := [(1, .int (0 : Int32)), (0, .ref (ad k0))]) hx hb (dc tbX7_finishedWidth_k 6 rfl) rfl hl (by decide) rfl (fun ls hl => ?_)
  refine lv_iconst (v := 0) hx hb (dc tbX7_finishedWidth_k 7 rfl) ic_0 ?_
  refine lv_istore_n (lv' := [(2, .int (0 : Int32)), (1, .int (0 : Int32)), (0, .ref (ad k0))]) hx hb (dc tbX7_finishedWidth_k 8 rfl) rfl hl (by decide) rfl (fun ls hl => ?_)
  refine lv_iconst (v := 0) hx hb (dc tbX7_finishedWidth_k 9 rfl) ic_0 ?_
  refine lv_istore_n (lv' := [(3, .int (0 : Int32)), (2, .int (0 : Int32)), (1, .int (0 : Int32)), (0, .ref (ad k0))]) hx hb (dc tbX7_finishedWidth_k 10 rfl) rfl hl (by decide) rfl (fun ls hl => ?_)
  exact tX7_finishedWidth_l15 C hk0 5000 (0 : Int32) (0 : Int32) (0 : Int32) M5 hf _ _ _ hI (lv_sub hl [3, 2, 1, 0] rfl)
theorem cv_X7_finishedWidth : cvF RX7 yX7_finishedWidth cX7_finishedWidth 4 (some .int) 0 := ⟨q_t8_148, q_t8_149, q_t1_11, q_t8_150, by decide +kernel⟩
def mX7_finishedHeight_b15 (k0 : Nat) (ih15 : Int32 → Int32 → Int32 → Mem → Option (Mem × Int32)) (x1 : Int32) (x2 : Int32) (x3 : Int32) (M : Mem) : Option (Mem × Int32) := chk (okb (1 : Int32) 86) (ite2 ((rd M (k0 + 1) ((1 : Int32)).toNatClampNeg) ≤ x3) (some (M, (x2 - x1))) (chk (okb x3 9) (bnd ((imin x1 (rd M (k0 + 9) (x3).toNatClampNeg))) (fun x1_35 => chk (okb x3 9) (bnd ((imax x2 (rd M (k0 + 9) (x3).toNatClampNeg))) (fun x2_46 => bnd (x3 + (1 : Int32)) (fun x3_47 => ih15 x1_35 x2_46 x3_47 M)))))))
set_option maxHeartbeats 4000000 in
set_option maxRecDepth 100000 in
theorem tX7_finishedHeight_b15 {p : Program} {l : Launch} {e : Env} {s : State} {m : MethodId} {args : Array Value} {below : List Frame} {meth : Method} {c : Code} {G : GT} {kd : Nat → Nat × Nat} {ad : Nat → Nat} (C : Cx p s m args meth c cX7_finishedHeight 4 (some .int) RX7 G kd ad) {k0 : Nat} (hk0 : kModel kd k0) {MO : Mem} {vo : Int32} {ih15 : Int32 → Int32 → Int32 → Mem → Option (Mem × Int32)} (hih15 : ∀ (x1 : Int32) (x2 : Int32) (x3 : Int32) (M : Mem), ih15 x1 x2 x3 M = some (MO, vo) → At p l e (rmO 3 0 0) s m args below meth c 0 0 (MQ below (Qg G kd ad s.heap.size MO (some (.int vo))) args s 0 0 (AS kd ad s.heap.size)) G kd ad 4 15 [(0, .ref (ad k0)), (1, .int x1), (2, .int x2), (3, .int x3)] [] M) : ∀ (x1 : Int32) (x2 : Int32) (x3 : Int32) (M : Mem), mX7_finishedHeight_b15 k0 ih15 x1 x2 x3 M = some (MO, vo) → At p l e (rmO 3 0 0) s m args below meth c 0 0 (MQ below (Qg G kd ad s.heap.size MO (some (.int vo))) args s 0 0 (AS kd ad s.heap.size)) G kd ad 4 15 [(0, .ref (ad k0)), (1, .int x1), (2, .int x2), (3, .int x3)] [] M := by
  intro x1 x2 x3 M hf H locs ls hI hl
  obtain ⟨hx, hb, hml, hr, hown, hts, hlk, hK, hap, hsx⟩ := id C
  unfold mX7_finishedHeight_b15 at hf
  refine lv_iload_n hx hb (dc tbX7_finishedHeight_k 11 rfl) rfl (lv_at hl 3 rfl) ?_
  refine lv_aload_n hx hb (dc tbX7_finishedHeight_k 12 rfl) rfl (lv_at hl 0 rfl) ?_
  refine gg7_0 hx hb hts hown hK hI hk0.1 q_t7_76 (dc tbX7_finishedHeight_k 13 rfl) ?_
  refine lv_iconst (v := 1) hx hb (dc tbX7_finishedHeight_k 14 rfl) ic_1 ?_
  obtain ⟨h6, hf⟩ := chk_s hf
  refine g_iald hx hb hK hI hk0.2.1 (okb_in h6) (dc tbX7_finishedHeight_k 15 rfl) ?_
  refine lv_icmp_ge (tgt := 53) hx hb (dc tbX7_finishedHeight_k 16 rfl) rfl (fun c7 => ?_) (fun c7 => ?_)
  · have hf := ite_t c7 hf
    refine lv_iload_n hx hb (dc tbX7_finishedHeight_k 33 rfl) rfl (lv_at hl 2 rfl) ?_
    refine lv_iload_n hx hb (dc tbX7_finishedHeight_k 34 rfl) rfl (lv_at hl 1 rfl) ?_
    refine lv_isub hx hb (dc tbX7_finishedHeight_k 35 rfl) ?_
    cases hf
    exact g_iret hx hb hr hlk hI (dc tbX7_finishedHeight_k 36 rfl)
  · have hf := ite_f c7 hf
    refine lv_iload_n hx hb (dc tbX7_finishedHeight_k 17 rfl) rfl (lv_at hl 1 rfl) ?_
    refine lv_aload_n hx hb (dc tbX7_finishedHeight_k 18 rfl) rfl (lv_at hl 0 rfl) ?_
    refine gg7_20 hx hb hts hown hK hI hk0.1 q_t7_96 (dc tbX7_finishedHeight_k 19 rfl) ?_
    refine lv_iload_n hx hb (dc tbX7_finishedHeight_k 20 rfl) rfl (lv_at hl 3 rfl) ?_
    obtain ⟨h8, hf⟩ := chk_s hf
    refine g_iald hx hb hK hI hk0.2.2.2.2.2.2.2.2.2.1 (okb_in h8) (dc tbX7_finishedHeight_k 21 rfl) ?_
    refine va_mmin hx hb (hml.trans hl.1.symm) hown (hts _ q_t8_165) (hts _ q_t2_200) (hts _ q_t1_22) (hts _ q_t2_201) (Nat.le_of_ble_eq_true rfl) (Nat.le_of_ble_eq_true rfl) (Nat.le_of_ble_eq_true rfl) (Nat.le_of_ble_eq_true rfl) (dc tbX7_finishedHeight_k 22 rfl) ?_
    refine lv_et (show (if _ then _ else _) = (imin x1 (rd M (k0 + 9) (x3).toNatClampNeg)) from rfl) ?_
    obtain ⟨x1_35, e9, hf⟩ := bnd_s hf
    refine lv_ei e9 ?_
    refine lv_istore_n (lv' := [(1, .int x1_35), (0, .ref (ad k0)), (2, .int x2), (3, .int x3)]) hx hb (dc tbX7_finishedHeight_k 23 rfl) rfl hl (by decide) rfl (fun ls hl => ?_)
    refine lv_iload_n hx hb (dc tbX7_finishedHeight_k 24 rfl) rfl (lv_at hl 2 rfl) ?_
    refine lv_aload_n hx hb (dc tbX7_finishedHeight_k 25 rfl) rfl (lv_at hl 1 rfl) ?_
    refine gg7_20 hx hb hts hown hK hI hk0.1 q_t7_96 (dc tbX7_finishedHeight_k 26 rfl) ?_
    refine lv_iload_n hx hb (dc tbX7_finishedHeight_k 27 rfl) rfl (lv_at hl 3 rfl) ?_
    obtain ⟨h10, hf⟩ := chk_s hf
    refine g_iald hx hb hK hI hk0.2.2.2.2.2.2.2.2.2.1 (okb_in h10) (dc tbX7_finishedHeight_k 28 rfl) ?_
    refine va_mmax hx hb (hml.trans hl.1.symm) hown (hts _ q_t8_166) (hts _ q_t2_203) (hts _ q_t1_22) (hts _ q_t2_204) (Nat.le_of_ble_eq_true rfl) (Nat.le_of_ble_eq_true rfl) (Nat.le_of_ble_eq_true rfl) (Nat.le_of_ble_eq_true rfl) (dc tbX7_finishedHeight_k 29 rfl) ?_
    refine lv_et (show (if _ then _ else _) = (imax x2 (rd M (k0 + 9) (x3).toNatClampNeg)) from rfl) ?_
    obtain ⟨x2_46, e11, hf⟩ := bnd_s hf
    refine lv_ei e11 ?_
    refine lv_istore_n (lv' := [(2, .int x2_46), (1, .int x1_35), (0, .ref (ad k0)), (3, .int x3)]) hx hb (dc tbX7_finishedHeight_k 30 rfl) rfl hl (by decide) rfl (fun ls hl => ?_)
    obtain ⟨x3_47, e12, hf⟩ := bnd_s hf
    refine lv_iinc (v := x3_47) (lv' := [(3, .int x3_47), (2, .int x2_46), (1, .int x1_35), (0, .ref (ad k0))]) hx hb (dc tbX7_finishedHeight_k 31 rfl) hl (k := 3) rfl (ii_e e12 ic_1) (by decide) rfl (fun ls hl => ?_)
    refine lv_goto (tgt := 15) hx hb (dc tbX7_finishedHeight_k 32 rfl) rfl ?_
    exact hih15 x1_35 x2_46 x3_47 M hf _ _ _ hI (lv_sub hl [3, 2, 1, 0] rfl)
def mX7_finishedHeight_l15 (k0 : Nat) : Nat → Int32 → Int32 → Int32 → Mem → Option (Mem × Int32)
  | 0 => fun _ _ _ _ => none
  | n + 1 => mX7_finishedHeight_b15 k0 (mX7_finishedHeight_l15 k0 n)
theorem tX7_finishedHeight_l15 {p : Program} {l : Launch} {e : Env} {s : State} {m : MethodId} {args : Array Value} {below : List Frame} {meth : Method} {c : Code} {G : GT} {kd : Nat → Nat × Nat} {ad : Nat → Nat} (C : Cx p s m args meth c cX7_finishedHeight 4 (some .int) RX7 G kd ad) {k0 : Nat} (hk0 : kModel kd k0) {MO : Mem} {vo : Int32}   : ∀ (fuel : Nat) (x1 : Int32) (x2 : Int32) (x3 : Int32) (M : Mem), mX7_finishedHeight_l15 k0 fuel x1 x2 x3 M = some (MO, vo) → At p l e (rmO 3 0 0) s m args below meth c 0 0 (MQ below (Qg G kd ad s.heap.size MO (some (.int vo))) args s 0 0 (AS kd ad s.heap.size)) G kd ad 4 15 [(0, .ref (ad k0)), (1, .int x1), (2, .int x2), (3, .int x3)] [] M := by
  intro fuel
  induction fuel with
  | zero => intro x1 x2 x3 M hf; cases hf
  | succ n IH => exact tX7_finishedHeight_b15 C hk0 IH
def mX7_finishedHeight (k0 : Nat) (M : Mem) : Option (Mem × Int32) := bnd (wr M k0 5 (0 : Int32)) (fun M1 => cal (mX7_layFinished k0 M1) (fun M5 _ => mX7_finishedHeight_l15 k0 5000 (0 : Int32) (0 : Int32) (0 : Int32) M5))
set_option maxHeartbeats 4000000 in
set_option maxRecDepth 100000 in
theorem tX7_finishedHeight (l : Launch) {G : GT} {kd : Nat → Nat × Nat} {ad : Nat → Nat} {k0 : Nat} (hk0 : kModel kd k0) {M : Mem} {MO : Mem} {vo : Int32} (hf : mX7_finishedHeight k0 M = some (MO, vo)) (n : Nat) : Met l yX7_finishedHeight (Cond.code yX7_finishedHeight cX7_finishedHeight 4 (some .int) :: WA) (rmO 3 0 0) (Pg G kd ad n [.ref (ad k0)] M) (Qg G kd ad n MO (some (.int vo))) 0 0 (AS kd ad n) := by
  refine g_body (own := RX7) (by decide) rfl ?_ (Nat.le_of_ble_eq_true rfl)
  intro p e s m args below meth c C _ H locs ls hI hl
  obtain ⟨hx, hb, hml, hr, hown, hts, hlk, hK, hap, hsx⟩ := id C
  have hl : lv_has ls 4 [(0, .ref (ad k0))] := hl
  unfold mX7_finishedHeight at hf
  refine lv_aload_n hx hb (dc tbX7_finishedHeight_k 0 rfl) rfl (lv_at hl 0 rfl) ?_
  refine lv_iconst (v := 0) hx hb (dc tbX7_finishedHeight_k 1 rfl) ic_0 ?_
  obtain ⟨M1, e2, hf⟩ := bnd_s hf
  refine gp7_5 hx hb hts hown hK hap hI hk0.1 q_t7_81 (dc tbX7_finishedHeight_k 2 rfl) e2 (fun H locs hI => ?_)
  refine lv_aload_n hx hb (dc tbX7_finishedHeight_k 3 rfl) rfl (lv_at hl 0 rfl) ?_
  obtain ⟨M5, r4, q3, hf⟩ := cal_s hf
  refine g_callVv hx hb hml hown hts hK hap hsx hI (tX7_layFinished l hk0 q3 H.size) cv_X7_layFinished q_t8_151 rfl rfl ⟨Nat.le_of_ble_eq_true rfl, Nat.le_of_ble_eq_true rfl⟩ hk0.1 (by simp) rfl rfl rfl hl.1 rfl (Nat.le_of_ble_eq_true rfl) (dc tbX7_finishedHeight_k 4 rfl) ⟨Nat.le_of_ble_eq_true rfl, Nat.le_of_ble_eq_true rfl⟩ (fun H locs hI => ?_)
  refine lv_iconst (v := 0) hx hb (dc tbX7_finishedHeight_k 5 rfl) ic_0 ?_
  refine lv_istore_n (lv' := [(1, .int (0 : Int32)), (0, .ref (ad k0))]) hx hb (dc tbX7_finishedHeight_k 6 rfl) rfl hl (by decide) rfl (fun ls hl => ?_)
  refine lv_iconst (v := 0) hx hb (dc tbX7_finishedHeight_k 7 rfl) ic_0 ?_
  refine lv_istore_n (lv' := [(2, .int (0 : Int32)), (1, .int (0 : Int32)), (0, .ref (ad k0))]) hx hb (dc tbX7_finishedHeight_k 8 rfl) rfl hl (by decide) rfl (fun ls hl => ?_)
  refine lv_iconst (v := 0) hx hb (dc tbX7_finishedHeight_k 9 rfl) ic_0 ?_
  refine lv_istore_n (lv' := [(3, .int (0 : Int32)), (2, .int (0 : Int32)), (1, .int (0 : Int32)), (0, .ref (ad k0))]) hx hb (dc tbX7_finishedHeight_k 10 rfl) rfl hl (by decide) rfl (fun ls hl => ?_)
  exact tX7_finishedHeight_l15 C hk0 5000 (0 : Int32) (0 : Int32) (0 : Int32) M5 hf _ _ _ hI (lv_sub hl [3, 2, 1, 0] rfl)
theorem cv_X7_finishedHeight : cvF RX7 yX7_finishedHeight cX7_finishedHeight 4 (some .int) 0 := ⟨q_t8_168, q_t8_169, q_t1_11, q_t8_170, by decide +kernel⟩
def mX7_isFinishedCrossed (k0 : Nat) (M : Mem) : Option (Mem × Int32) := bnd (wr M k0 5 (0 : Int32)) (fun M1 => cal (mX7_layFinished k0 M1) (fun M5 _ => cap (mX7_isCrossed k0 M5) (fun r7 => chk (isB r7) (some (M5, r7)))))
set_option maxHeartbeats 4000000 in
set_option maxRecDepth 100000 in
theorem tX7_isFinishedCrossed (l : Launch) {G : GT} {kd : Nat → Nat × Nat} {ad : Nat → Nat} {k0 : Nat} (hk0 : kModel kd k0) {M : Mem} {MO : Mem} {vo : Int32} (hf : mX7_isFinishedCrossed k0 M = some (MO, vo)) (n : Nat) : Met l yX7_isFinishedCrossed (Cond.code yX7_isFinishedCrossed cX7_isFinishedCrossed 1 (some .boolean) :: WA) (rmO 3 0 0) (Pg G kd ad n [.ref (ad k0)] M) (Qg G kd ad n MO (some (.int vo))) 0 0 (AS kd ad n) := by
  refine g_body (own := RX7) (by decide) rfl ?_ (Nat.le_of_ble_eq_true rfl)
  intro p e s m args below meth c C _ H locs ls hI hl
  obtain ⟨hx, hb, hml, hr, hown, hts, hlk, hK, hap, hsx⟩ := id C
  have hl : lv_has ls 1 [(0, .ref (ad k0))] := hl
  unfold mX7_isFinishedCrossed at hf
  refine lv_aload_n hx hb (dc tbX7_isFinishedCrossed_k 0 rfl) rfl (lv_at hl 0 rfl) ?_
  refine lv_iconst (v := 0) hx hb (dc tbX7_isFinishedCrossed_k 1 rfl) ic_0 ?_
  obtain ⟨M1, e2, hf⟩ := bnd_s hf
  refine gp7_5 hx hb hts hown hK hap hI hk0.1 q_t7_81 (dc tbX7_isFinishedCrossed_k 2 rfl) e2 (fun H locs hI => ?_)
  refine lv_aload_n hx hb (dc tbX7_isFinishedCrossed_k 3 rfl) rfl (lv_at hl 0 rfl) ?_
  obtain ⟨M5, r4, q3, hf⟩ := cal_s hf
  refine g_callVv hx hb hml hown hts hK hap hsx hI (tX7_layFinished l hk0 q3 H.size) cv_X7_layFinished q_t8_151 rfl rfl ⟨Nat.le_of_ble_eq_true rfl, Nat.le_of_ble_eq_true rfl⟩ hk0.1 (by simp) rfl rfl rfl hl.1 rfl (Nat.le_of_ble_eq_true rfl) (dc tbX7_isFinishedCrossed_k 4 rfl) ⟨Nat.le_of_ble_eq_true rfl, Nat.le_of_ble_eq_true rfl⟩ (fun H locs hI => ?_)
  refine lv_aload_n hx hb (dc tbX7_isFinishedCrossed_k 5 rfl) rfl (lv_at hl 0 rfl) ?_
  obtain ⟨r7, q6, hf⟩ := cap_s hf
  refine g_callVi hx hb hml hown hts hK hap hsx hI (tX7_isCrossed l hk0 q6 H.size) cv_X7_isCrossed q_t8_175 rfl rfl ⟨Nat.le_of_ble_eq_true rfl, Nat.le_of_ble_eq_true rfl⟩ hk0.1 (by simp) rfl rfl rfl hl.1 rfl (Nat.le_of_ble_eq_true rfl) (dc tbX7_isFinishedCrossed_k 6 rfl) ⟨Nat.le_of_ble_eq_true rfl, Nat.le_of_ble_eq_true rfl⟩ (fun H locs hI => ?_)
  obtain ⟨h9, hf⟩ := chk_s hf
  cases hf
  exact g_zret hx hb hr hlk hI (isB_n h9) (dc tbX7_isFinishedCrossed_k 7 rfl)
theorem cv_X7_isFinishedCrossed : cvF RX7 yX7_isFinishedCrossed cX7_isFinishedCrossed 1 (some .boolean) 0 := ⟨q_t8_172, q_t8_173, q_t1_11, q_t8_174, by decide +kernel⟩
def mX7_finishedCorner (k0 : Nat) (x1 : Int32) (x2 : Int32) (M : Mem) : Option (Mem × Int32) := cap (mX7_isLeg k0 x1 M) (fun r2 => cap (mX7_between (x2).toInt64 (0 : Int64) (1 : Int64) M) (fun r5 => cal (mX7_good_ k0 r2 r5 M) (fun M9 r8 => ite2 (r8 = 0) (some (M9, (0 : Int32))) (cal (mX7_layFinished k0 M9) (fun M13 _ => ite2 (x2 = 0) (chk (okb x1 9) (some (M13, (rd M13 (k0 + 8) (x1).toNatClampNeg)))) (chk (okb x1 9) (some (M13, (rd M13 (k0 + 9) (x1).toNatClampNeg)))))))))
set_option maxHeartbeats 4000000 in
set_option maxRecDepth 100000 in
theorem tX7_finishedCorner (l : Launch) {G : GT} {kd : Nat → Nat × Nat} {ad : Nat → Nat} {k0 : Nat} (hk0 : kModel kd k0) {x1 : Int32} {x2 : Int32} {M : Mem} {MO : Mem} {vo : Int32} (hf : mX7_finishedCorner k0 x1 x2 M = some (MO, vo)) (n : Nat) : Met l yX7_finishedCorner (Cond.code yX7_finishedCorner cX7_finishedCorner 3 (some .int) :: WA) (rmO 3 0 0) (Pg G kd ad n [.ref (ad k0), .int x1, .int x2] M) (Qg G kd ad n MO (some (.int vo))) 0 0 (AS kd ad n) := by
  refine g_body (own := RX7) (by decide) rfl ?_ (Nat.le_of_ble_eq_true rfl)
  intro p e s m args below meth c C _ H locs ls hI hl
  obtain ⟨hx, hb, hml, hr, hown, hts, hlk, hK, hap, hsx⟩ := id C
  have hl : lv_has ls 3 [(0, .ref (ad k0)), (1, .int x1), (2, .int x2)] := hl
  unfold mX7_finishedCorner at hf
  refine lv_aload_n hx hb (dc tbX7_finishedCorner_k 0 rfl) rfl (lv_at hl 0 rfl) ?_
  refine lv_aload_n hx hb (dc tbX7_finishedCorner_k 1 rfl) rfl (lv_at hl 0 rfl) ?_
  refine lv_iload_n hx hb (dc tbX7_finishedCorner_k 2 rfl) rfl (lv_at hl 1 rfl) ?_
  obtain ⟨r2, q1, hf⟩ := cap_s hf
  refine g_callVi hx hb hml hown hts hK hap hsx hI (tX7_isLeg l hk0 q1 H.size) cv_X7_isLeg q_t8_52 rfl rfl ⟨Nat.le_of_ble_eq_true rfl, Nat.le_of_ble_eq_true rfl⟩ hk0.1 (by simp) rfl rfl rfl hl.1 rfl (Nat.le_of_ble_eq_true rfl) (dc tbX7_finishedCorner_k 3 rfl) ⟨Nat.le_of_ble_eq_true rfl, Nat.le_of_ble_eq_true rfl⟩ (fun H locs hI => ?_)
  refine lv_iload_n hx hb (dc tbX7_finishedCorner_k 4 rfl) rfl (lv_at hl 2 rfl) ?_
  refine lv_i2l hx hb (dc tbX7_finishedCorner_k 5 rfl) rfl ?_
  refine lv_lconst (v := 0) hx hb (dc tbX7_finishedCorner_k 6 rfl) (by decide) ?_
  refine lv_lconst (v := 1) hx hb (dc tbX7_finishedCorner_k 7 rfl) (by decide) ?_
  obtain ⟨r5, q4, hf⟩ := cap_s hf
  refine g_callSi hx hb hml hown hts hK hap hsx hI (tX7_between l  q4 H.size) cs_X7_between q_t7_190 rfl rfl ⟨Nat.le_of_ble_eq_true rfl, Nat.le_of_ble_eq_true rfl⟩ rfl hl.1 rfl (Nat.le_of_ble_eq_true rfl) (dc tbX7_finishedCorner_k 8 rfl) ⟨Nat.le_of_ble_eq_true rfl, Nat.le_of_ble_eq_true rfl⟩ (fun H locs hI => ?_)
  obtain ⟨M9, r8, q7, hf⟩ := cal_s hf
  refine g_callVi hx hb hml hown hts hK hap hsx hI (tX7_good_ l hk0 q7 H.size) cv_X7_good_ q_t8_186 rfl rfl ⟨Nat.le_of_ble_eq_true rfl, Nat.le_of_ble_eq_true rfl⟩ hk0.1 (by simp) rfl rfl rfl hl.1 rfl (Nat.le_of_ble_eq_true rfl) (dc tbX7_finishedCorner_k 9 rfl) ⟨Nat.le_of_ble_eq_true rfl, Nat.le_of_ble_eq_true rfl⟩ (fun H locs hI => ?_)
  refine lv_if_ne (tgt := 21) hx hb (dc tbX7_finishedCorner_k 10 rfl) rfl (fun c10 => ?_) (fun c10 => ?_)
  · have hf := ite_f c10 hf
    refine lv_aload_n hx hb (dc tbX7_finishedCorner_k 13 rfl) rfl (lv_at hl 0 rfl) ?_
    obtain ⟨M13, r12, q11, hf⟩ := cal_s hf
    refine g_callVv hx hb hml hown hts hK hap hsx hI (tX7_layFinished l hk0 q11 H.size) cv_X7_layFinished q_t8_151 rfl rfl ⟨Nat.le_of_ble_eq_true rfl, Nat.le_of_ble_eq_true rfl⟩ hk0.1 (by simp) rfl rfl rfl hl.1 rfl (Nat.le_of_ble_eq_true rfl) (dc tbX7_finishedCorner_k 14 rfl) ⟨Nat.le_of_ble_eq_true rfl, Nat.le_of_ble_eq_true rfl⟩ (fun H locs hI => ?_)
    refine lv_iload_n hx hb (dc tbX7_finishedCorner_k 15 rfl) rfl (lv_at hl 2 rfl) ?_
    refine lv_if_ne (tgt := 38) hx hb (dc tbX7_finishedCorner_k 16 rfl) rfl (fun c14 => ?_) (fun c14 => ?_)
    · have hf := ite_f c14 hf
      refine lv_aload_n hx hb (dc tbX7_finishedCorner_k 22 rfl) rfl (lv_at hl 0 rfl) ?_
      refine gg7_20 hx hb hts hown hK hI hk0.1 q_t7_96 (dc tbX7_finishedCorner_k 23 rfl) ?_
      refine lv_iload_n hx hb (dc tbX7_finishedCorner_k 24 rfl) rfl (lv_at hl 1 rfl) ?_
      obtain ⟨h15, hf⟩ := chk_s hf
      refine g_iald hx hb hK hI hk0.2.2.2.2.2.2.2.2.2.1 (okb_in h15) (dc tbX7_finishedCorner_k 25 rfl) ?_
      cases hf
      exact g_iret hx hb hr hlk hI (dc tbX7_finishedCorner_k 26 rfl)
    · have hf := ite_t c14 hf
      refine lv_aload_n hx hb (dc tbX7_finishedCorner_k 17 rfl) rfl (lv_at hl 0 rfl) ?_
      refine gg7_19 hx hb hts hown hK hI hk0.1 q_t7_95 (dc tbX7_finishedCorner_k 18 rfl) ?_
      refine lv_iload_n hx hb (dc tbX7_finishedCorner_k 19 rfl) rfl (lv_at hl 1 rfl) ?_
      obtain ⟨h16, hf⟩ := chk_s hf
      refine g_iald hx hb hK hI hk0.2.2.2.2.2.2.2.2.1 (okb_in h16) (dc tbX7_finishedCorner_k 20 rfl) ?_
      refine lv_goto (tgt := 44) hx hb (dc tbX7_finishedCorner_k 21 rfl) rfl ?_
      cases hf
      exact g_iret hx hb hr hlk hI (dc tbX7_finishedCorner_k 26 rfl)
  · have hf := ite_t c10 hf
    refine lv_iconst (v := 0) hx hb (dc tbX7_finishedCorner_k 11 rfl) ic_0 ?_
    cases hf
    exact g_iret hx hb hr hlk hI (dc tbX7_finishedCorner_k 12 rfl)
theorem cv_X7_finishedCorner : cvF RX7 yX7_finishedCorner cX7_finishedCorner 3 (some .int) 2 := ⟨q_t8_183, q_t8_184, q_t1_11, q_t8_185, by decide +kernel⟩
def mX7_stepOf (k0 : Nat) (x1 : Int32) (x2 : Int32) (M : Mem) : Option Int32 := chk (okb (((54 : Int32) + ((4 : Int32) * x1)) + x2) 86) (some (rd M (k0 + 1) ((((54 : Int32) + ((4 : Int32) * x1)) + x2)).toNatClampNeg))
set_option maxHeartbeats 4000000 in
set_option maxRecDepth 100000 in
theorem tX7_stepOf (l : Launch) {G : GT} {kd : Nat → Nat × Nat} {ad : Nat → Nat} {k0 : Nat} (hk0 : kModel kd k0) {x1 : Int32} {x2 : Int32} {M : Mem} {vo : Int32} (hf : mX7_stepOf k0 x1 x2 M = some vo) (n : Nat) : Met l yX7_stepOf (Cond.code yX7_stepOf cX7_stepOf 3 (some .int) :: WA) (rmO 0 0 0) (Pg G kd ad n [.ref (ad k0), .int x1, .int x2] M) (Qg G kd ad n M (some (.int vo))) 0 0 (AS kd ad n) := by
  refine g_body (own := RX7) (by decide) rfl ?_ (Nat.le_of_ble_eq_true rfl)
  intro p e s m args below meth c C _ H locs ls hI hl
  obtain ⟨hx, hb, hml, hr, hown, hts, hlk, hK, hap, hsx⟩ := id C
  have hl : lv_has ls 3 [(0, .ref (ad k0)), (1, .int x1), (2, .int x2)] := hl
  unfold mX7_stepOf at hf
  refine lv_aload_n hx hb (dc tbX7_stepOf_k 0 rfl) rfl (lv_at hl 0 rfl) ?_
  refine gg7_0 hx hb hts hown hK hI hk0.1 q_t7_76 (dc tbX7_stepOf_k 1 rfl) ?_
  refine lv_bipush (v := 54) hx hb (dc tbX7_stepOf_k 2 rfl) bp_54 ?_
  refine lv_iconst (v := 4) hx hb (dc tbX7_stepOf_k 3 rfl) ic_4 ?_
  refine lv_iload_n hx hb (dc tbX7_stepOf_k 4 rfl) rfl (lv_at hl 1 rfl) ?_
  refine lv_imul hx hb (dc tbX7_stepOf_k 5 rfl) ?_
  refine lv_iadd hx hb (dc tbX7_stepOf_k 6 rfl) ?_
  refine lv_iload_n hx hb (dc tbX7_stepOf_k 7 rfl) rfl (lv_at hl 2 rfl) ?_
  refine lv_iadd hx hb (dc tbX7_stepOf_k 8 rfl) ?_
  obtain ⟨h1, hf⟩ := chk_s hf
  refine g_iald hx hb hK hI hk0.2.1 (okb_in h1) (dc tbX7_stepOf_k 9 rfl) ?_
  cases hf
  exact g_iret hx hb hr hlk hI (dc tbX7_stepOf_k 10 rfl)
theorem cv_X7_stepOf : cvF RX7 yX7_stepOf cX7_stepOf 3 (some .int) 2 := ⟨q_t8_205, q_s5_3, q_t1_11, q_t8_206, by decide +kernel⟩
def mX7_sumOfCosts_b4 (k0 : Nat) (M : Mem) (ih4 : Int32 → Int32 → Option Int32) (x1 : Int32) (x2 : Int32) : Option Int32 := chk (okb (53 : Int32) 86) (ite2 ((rd M (k0 + 1) ((53 : Int32)).toNatClampNeg) ≤ x2) (some x1) (cap (mX7_stepOf k0 x2 (3 : Int32) M) (fun r4 => bnd ((x1 + r4)) (fun x1_23 => bnd (x2 + (1 : Int32)) (fun x2_24 => ih4 x1_23 x2_24)))))
set_option maxHeartbeats 4000000 in
set_option maxRecDepth 100000 in
theorem tX7_sumOfCosts_b4 {p : Program} {l : Launch} {e : Env} {s : State} {m : MethodId} {args : Array Value} {below : List Frame} {meth : Method} {c : Code} {G : GT} {kd : Nat → Nat × Nat} {ad : Nat → Nat} (C : Cx p s m args meth c cX7_sumOfCosts 3 (some .int) RX7 G kd ad) {k0 : Nat} (hk0 : kModel kd k0) {M : Mem} {vo : Int32} {ih4 : Int32 → Int32 → Option Int32} (hih4 : ∀ (x1 : Int32) (x2 : Int32), ih4 x1 x2 = some vo → At p l e (rmO 1 0 0) s m args below meth c 0 0 (MQ below (Qg G kd ad s.heap.size M (some (.int vo))) args s 0 0 (AS kd ad s.heap.size)) G kd ad 3 4 [(0, .ref (ad k0)), (1, .int x1), (2, .int x2)] [] M) : ∀ (x1 : Int32) (x2 : Int32), mX7_sumOfCosts_b4 k0 M ih4 x1 x2 = some vo → At p l e (rmO 1 0 0) s m args below meth c 0 0 (MQ below (Qg G kd ad s.heap.size M (some (.int vo))) args s 0 0 (AS kd ad s.heap.size)) G kd ad 3 4 [(0, .ref (ad k0)), (1, .int x1), (2, .int x2)] [] M := by
  intro x1 x2 hf H locs ls hI hl
  obtain ⟨hx, hb, hml, hr, hown, hts, hlk, hK, hap, hsx⟩ := id C
  unfold mX7_sumOfCosts_b4 at hf
  refine lv_iload_n hx hb (dc tbX7_sumOfCosts_k 4 rfl) rfl (lv_at hl 2 rfl) ?_
  refine lv_aload_n hx hb (dc tbX7_sumOfCosts_k 5 rfl) rfl (lv_at hl 0 rfl) ?_
  refine gg7_0 hx hb hts hown hK hI hk0.1 q_t7_76 (dc tbX7_sumOfCosts_k 6 rfl) ?_
  refine lv_bipush (v := 53) hx hb (dc tbX7_sumOfCosts_k 7 rfl) bp_53 ?_
  obtain ⟨h1, hf⟩ := chk_s hf
  refine g_iald hx hb hK hI hk0.2.1 (okb_in h1) (dc tbX7_sumOfCosts_k 8 rfl) ?_
  refine lv_icmp_ge (tgt := 30) hx hb (dc tbX7_sumOfCosts_k 9 rfl) rfl (fun c2 => ?_) (fun c2 => ?_)
  · have hf := ite_t c2 hf
    refine lv_iload_n hx hb (dc tbX7_sumOfCosts_k 19 rfl) rfl (lv_at hl 1 rfl) ?_
    cases hf
    exact g_iret hx hb hr hlk hI (dc tbX7_sumOfCosts_k 20 rfl)
  · have hf := ite_f c2 hf
    refine lv_iload_n hx hb (dc tbX7_sumOfCosts_k 10 rfl) rfl (lv_at hl 1 rfl) ?_
    refine lv_aload_n hx hb (dc tbX7_sumOfCosts_k 11 rfl) rfl (lv_at hl 0 rfl) ?_
    refine lv_iload_n hx hb (dc tbX7_sumOfCosts_k 12 rfl) rfl (lv_at hl 2 rfl) ?_
    refine lv_iconst (v := 3) hx hb (dc tbX7_sumOfCosts_k 13 rfl) ic_3 ?_
    obtain ⟨r4, q3, hf⟩ := cap_s hf
    refine g_callVi hx hb hml hown hts hK hap hsx hI (tX7_stepOf l hk0 q3 H.size) cv_X7_stepOf q_t8_203 rfl rfl ⟨Nat.le_of_ble_eq_true rfl, Nat.le_of_ble_eq_true rfl⟩ hk0.1 (by simp) rfl rfl rfl hl.1 rfl (Nat.le_of_ble_eq_true rfl) (dc tbX7_sumOfCosts_k 14 rfl) ⟨Nat.le_of_ble_eq_true rfl, Nat.le_of_ble_eq_true rfl⟩ (fun H locs hI => ?_)
    refine lv_iadd hx hb (dc tbX7_sumOfCosts_k 15 rfl) ?_
    obtain ⟨x1_23, e6, hf⟩ := bnd_s hf
    refine lv_ei e6 ?_
    refine lv_istore_n (lv' := [(1, .int x1_23), (0, .ref (ad k0)), (2, .int x2)]) hx hb (dc tbX7_sumOfCosts_k 16 rfl) rfl hl (by decide) rfl (fun ls hl => ?_)
    obtain ⟨x2_24, e7, hf⟩ := bnd_s hf
    refine lv_iinc (v := x2_24) (lv' := [(2, .int x2_24), (1, .int x1_23), (0, .ref (ad k0))]) hx hb (dc tbX7_sumOfCosts_k 17 rfl) hl (k := 2) rfl (ii_e e7 ic_1) (by decide) rfl (fun ls hl => ?_)
    refine lv_goto (tgt := 4) hx hb (dc tbX7_sumOfCosts_k 18 rfl) rfl ?_
    exact hih4 x1_23 x2_24 hf _ _ _ hI (lv_sub hl [2, 1, 0] rfl)
def mX7_sumOfCosts_l4 (k0 : Nat) (M : Mem) : Nat → Int32 → Int32 → Option Int32
  | 0 => fun _ _ => none
  | n + 1 => mX7_sumOfCosts_b4 k0 M (mX7_sumOfCosts_l4 k0 M n)
theorem tX7_sumOfCosts_l4 {p : Program} {l : Launch} {e : Env} {s : State} {m : MethodId} {args : Array Value} {below : List Frame} {meth : Method} {c : Code} {G : GT} {kd : Nat → Nat × Nat} {ad : Nat → Nat} (C : Cx p s m args meth c cX7_sumOfCosts 3 (some .int) RX7 G kd ad) {k0 : Nat} (hk0 : kModel kd k0) {M : Mem} {vo : Int32}   : ∀ (fuel : Nat) (x1 : Int32) (x2 : Int32), mX7_sumOfCosts_l4 k0 M fuel x1 x2 = some vo → At p l e (rmO 1 0 0) s m args below meth c 0 0 (MQ below (Qg G kd ad s.heap.size M (some (.int vo))) args s 0 0 (AS kd ad s.heap.size)) G kd ad 3 4 [(0, .ref (ad k0)), (1, .int x1), (2, .int x2)] [] M := by
  intro fuel
  induction fuel with
  | zero => intro x1 x2 hf; cases hf
  | succ n IH => exact tX7_sumOfCosts_b4 C hk0 IH
def mX7_sumOfCosts (k0 : Nat) (M : Mem) : Option Int32 := mX7_sumOfCosts_l4 k0 M 5000 (0 : Int32) (0 : Int32)
set_option maxHeartbeats 4000000 in
set_option maxRecDepth 100000 in
theorem tX7_sumOfCosts (l : Launch) {G : GT} {kd : Nat → Nat × Nat} {ad : Nat → Nat} {k0 : Nat} (hk0 : kModel kd k0) {M : Mem} {vo : Int32} (hf : mX7_sumOfCosts k0 M = some vo) (n : Nat) : Met l yX7_sumOfCosts (Cond.code yX7_sumOfCosts cX7_sumOfCosts 3 (some .int) :: WA) (rmO 1 0 0) (Pg G kd ad n [.ref (ad k0)] M) (Qg G kd ad n M (some (.int vo))) 0 0 (AS kd ad n) := by
  refine g_body (own := RX7) (by decide) rfl ?_ (Nat.le_of_ble_eq_true rfl)
  intro p e s m args below meth c C _ H locs ls hI hl
  obtain ⟨hx, hb, hml, hr, hown, hts, hlk, hK, hap, hsx⟩ := id C
  have hl : lv_has ls 3 [(0, .ref (ad k0))] := hl
  unfold mX7_sumOfCosts at hf
  refine lv_iconst (v := 0) hx hb (dc tbX7_sumOfCosts_k 0 rfl) ic_0 ?_
  refine lv_istore_n (lv' := [(1, .int (0 : Int32)), (0, .ref (ad k0))]) hx hb (dc tbX7_sumOfCosts_k 1 rfl) rfl hl (by decide) rfl (fun ls hl => ?_)
  refine lv_iconst (v := 0) hx hb (dc tbX7_sumOfCosts_k 2 rfl) ic_0 ?_
  refine lv_istore_n (lv' := [(2, .int (0 : Int32)), (1, .int (0 : Int32)), (0, .ref (ad k0))]) hx hb (dc tbX7_sumOfCosts_k 3 rfl) rfl hl (by decide) rfl (fun ls hl => ?_)
  exact tX7_sumOfCosts_l4 C hk0 5000 (0 : Int32) (0 : Int32) hf _ _ _ hI (lv_sub hl [2, 1, 0] rfl)
theorem cv_X7_sumOfCosts : cvF RX7 yX7_sumOfCosts cX7_sumOfCosts 3 (some .int) 0 := ⟨q_t8_213, q_s5_4, q_t1_11, q_t8_214, by decide +kernel⟩
def mX7_made (k0 : Nat) (M : Mem) : Option (Mem × Int32) := cal (mX7_tellNow k0 (52 : Int32) M) (fun M3 r2 => some (M3, r2))
set_option maxHeartbeats 4000000 in
set_option maxRecDepth 100000 in
theorem tX7_made (l : Launch) {G : GT} {kd : Nat → Nat × Nat} {ad : Nat → Nat} {k0 : Nat} (hk0 : kModel kd k0) {M : Mem} {MO : Mem} {vo : Int32} (hf : mX7_made k0 M = some (MO, vo)) (n : Nat) : Met l yX7_made (Cond.code yX7_made cX7_made 1 (some .int) :: WA) (rmO 1 0 0) (Pg G kd ad n [.ref (ad k0)] M) (Qg G kd ad n MO (some (.int vo))) 0 0 (AS kd ad n) := by
  refine g_body (own := RX7) (by decide) rfl ?_ (Nat.le_of_ble_eq_true rfl)
  intro p e s m args below meth c C _ H locs ls hI hl
  obtain ⟨hx, hb, hml, hr, hown, hts, hlk, hK, hap, hsx⟩ := id C
  have hl : lv_has ls 1 [(0, .ref (ad k0))] := hl
  unfold mX7_made at hf
  refine lv_aload_n hx hb (dc tbX7_made_k 0 rfl) rfl (lv_at hl 0 rfl) ?_
  refine lv_bipush (v := 52) hx hb (dc tbX7_made_k 1 rfl) bp_52 ?_
  obtain ⟨M3, r2, q1, hf⟩ := cal_s hf
  refine g_callVi hx hb hml hown hts hK hap hsx hI (tX7_tellNow l hk0 q1 H.size) cv_X7_tellNow q_t8_40 rfl rfl ⟨Nat.le_of_ble_eq_true rfl, Nat.le_of_ble_eq_true rfl⟩ hk0.1 (by simp) rfl rfl rfl hl.1 rfl (Nat.le_of_ble_eq_true rfl) (dc tbX7_made_k 2 rfl) ⟨Nat.le_of_ble_eq_true rfl, Nat.le_of_ble_eq_true rfl⟩ (fun H locs hI => ?_)
  cases hf
  exact g_iret hx hb hr hlk hI (dc tbX7_made_k 3 rfl)
theorem cv_X7_made : cvF RX7 yX7_made cX7_made 1 (some .int) 0 := ⟨q_t8_191, q_t8_192, q_t1_11, q_t8_193, by decide +kernel⟩
def mX7_steps (k0 : Nat) (M : Mem) : Option (Mem × Int32) := cal (mX7_tellNow k0 (53 : Int32) M) (fun M3 r2 => some (M3, r2))
set_option maxHeartbeats 4000000 in
set_option maxRecDepth 100000 in
theorem tX7_steps (l : Launch) {G : GT} {kd : Nat → Nat × Nat} {ad : Nat → Nat} {k0 : Nat} (hk0 : kModel kd k0) {M : Mem} {MO : Mem} {vo : Int32} (hf : mX7_steps k0 M = some (MO, vo)) (n : Nat) : Met l yX7_steps (Cond.code yX7_steps cX7_steps 1 (some .int) :: WA) (rmO 1 0 0) (Pg G kd ad n [.ref (ad k0)] M) (Qg G kd ad n MO (some (.int vo))) 0 0 (AS kd ad n) := by
  refine g_body (own := RX7) (by decide) rfl ?_ (Nat.le_of_ble_eq_true rfl)
  intro p e s m args below meth c C _ H locs ls hI hl
  obtain ⟨hx, hb, hml, hr, hown, hts, hlk, hK, hap, hsx⟩ := id C
  have hl : lv_has ls 1 [(0, .ref (ad k0))] := hl
  unfold mX7_steps at hf
  refine lv_aload_n hx hb (dc tbX7_steps_k 0 rfl) rfl (lv_at hl 0 rfl) ?_
  refine lv_bipush (v := 53) hx hb (dc tbX7_steps_k 1 rfl) bp_53 ?_
  obtain ⟨M3, r2, q1, hf⟩ := cal_s hf
  refine g_callVi hx hb hml hown hts hK hap hsx hI (tX7_tellNow l hk0 q1 H.size) cv_X7_tellNow q_t8_40 rfl rfl ⟨Nat.le_of_ble_eq_true rfl, Nat.le_of_ble_eq_true rfl⟩ hk0.1 (by simp) rfl rfl rfl hl.1 rfl (Nat.le_of_ble_eq_true rfl) (dc tbX7_steps_k 2 rfl) ⟨Nat.le_of_ble_eq_true rfl, Nat.le_of_ble_eq_true rfl⟩ (fun H locs hI => ?_)
  cases hf
  exact g_iret hx hb hr hlk hI (dc tbX7_steps_k 3 rfl)
theorem cv_X7_steps : cvF RX7 yX7_steps cX7_steps 1 (some .int) 0 := ⟨q_t8_195, q_t8_196, q_t1_11, q_t8_197, by decide +kernel⟩
def mX7_step (k0 : Nat) (x1 : Int32) (x2 : Int32) (M : Mem) : Option (Mem × Int32) := chk (okb (53 : Int32) 86) (cap (mX7_between (x1).toInt64 (0 : Int64) (((rd M (k0 + 1) ((53 : Int32)).toNatClampNeg) - (1 : Int32))).toInt64 M) (fun r3 => cap (mX7_between (x2).toInt64 (0 : Int64) (3 : Int64) M) (fun r6 => cal (mX7_good_ k0 r3 r6 M) (fun M10 r9 => ite2 (r9 = 0) (some (M10, (0 : Int32))) (cap (mX7_stepOf k0 x1 x2 M10) (fun r13 => some (M10, r13)))))))
set_option maxHeartbeats 4000000 in
set_option maxRecDepth 100000 in
theorem tX7_step (l : Launch) {G : GT} {kd : Nat → Nat × Nat} {ad : Nat → Nat} {k0 : Nat} (hk0 : kModel kd k0) {x1 : Int32} {x2 : Int32} {M : Mem} {MO : Mem} {vo : Int32} (hf : mX7_step k0 x1 x2 M = some (MO, vo)) (n : Nat) : Met l yX7_step (Cond.code yX7_step cX7_step 3 (some .int) :: WA) (rmO 1 0 0) (Pg G kd ad n [.ref (ad k0), .int x1, .int x2] M) (Qg G kd ad n MO (some (.int vo))) 0 0 (AS kd ad n) := by
  refine g_body (own := RX7) (by decide) rfl ?_ (Nat.le_of_ble_eq_true rfl)
  intro p e s m args below meth c C _ H locs ls hI hl
  obtain ⟨hx, hb, hml, hr, hown, hts, hlk, hK, hap, hsx⟩ := id C
  have hl : lv_has ls 3 [(0, .ref (ad k0)), (1, .int x1), (2, .int x2)] := hl
  unfold mX7_step at hf
  refine lv_aload_n hx hb (dc tbX7_step_k 0 rfl) rfl (lv_at hl 0 rfl) ?_
  refine lv_iload_n hx hb (dc tbX7_step_k 1 rfl) rfl (lv_at hl 1 rfl) ?_
  refine lv_i2l hx hb (dc tbX7_step_k 2 rfl) rfl ?_
  refine lv_lconst (v := 0) hx hb (dc tbX7_step_k 3 rfl) (by decide) ?_
  refine lv_aload_n hx hb (dc tbX7_step_k 4 rfl) rfl (lv_at hl 0 rfl) ?_
  refine gg7_0 hx hb hts hown hK hI hk0.1 q_t7_76 (dc tbX7_step_k 5 rfl) ?_
  refine lv_bipush (v := 53) hx hb (dc tbX7_step_k 6 rfl) bp_53 ?_
  obtain ⟨h1, hf⟩ := chk_s hf
  refine g_iald hx hb hK hI hk0.2.1 (okb_in h1) (dc tbX7_step_k 7 rfl) ?_
  refine lv_iconst (v := 1) hx hb (dc tbX7_step_k 8 rfl) ic_1 ?_
  refine lv_isub hx hb (dc tbX7_step_k 9 rfl) ?_
  refine lv_i2l hx hb (dc tbX7_step_k 10 rfl) rfl ?_
  obtain ⟨r3, q2, hf⟩ := cap_s hf
  refine g_callSi hx hb hml hown hts hK hap hsx hI (tX7_between l  q2 H.size) cs_X7_between q_t7_190 rfl rfl ⟨Nat.le_of_ble_eq_true rfl, Nat.le_of_ble_eq_true rfl⟩ rfl hl.1 rfl (Nat.le_of_ble_eq_true rfl) (dc tbX7_step_k 11 rfl) ⟨Nat.le_of_ble_eq_true rfl, Nat.le_of_ble_eq_true rfl⟩ (fun H locs hI => ?_)
  refine lv_iload_n hx hb (dc tbX7_step_k 12 rfl) rfl (lv_at hl 2 rfl) ?_
  refine lv_i2l hx hb (dc tbX7_step_k 13 rfl) rfl ?_
  refine lv_lconst (v := 0) hx hb (dc tbX7_step_k 14 rfl) (by decide) ?_
  refine lv_ldc2 hx hb hown (hts _ q_t8_202) (dc tbX7_step_k 15 rfl) ?_
  obtain ⟨r6, q5, hf⟩ := cap_s hf
  refine g_callSi hx hb hml hown hts hK hap hsx hI (tX7_between l  q5 H.size) cs_X7_between q_t7_190 rfl rfl ⟨Nat.le_of_ble_eq_true rfl, Nat.le_of_ble_eq_true rfl⟩ rfl hl.1 rfl (Nat.le_of_ble_eq_true rfl) (dc tbX7_step_k 16 rfl) ⟨Nat.le_of_ble_eq_true rfl, Nat.le_of_ble_eq_true rfl⟩ (fun H locs hI => ?_)
  obtain ⟨M10, r9, q8, hf⟩ := cal_s hf
  refine g_callVi hx hb hml hown hts hK hap hsx hI (tX7_good_ l hk0 q8 H.size) cv_X7_good_ q_t8_186 rfl rfl ⟨Nat.le_of_ble_eq_true rfl, Nat.le_of_ble_eq_true rfl⟩ hk0.1 (by simp) rfl rfl rfl hl.1 rfl (Nat.le_of_ble_eq_true rfl) (dc tbX7_step_k 17 rfl) ⟨Nat.le_of_ble_eq_true rfl, Nat.le_of_ble_eq_true rfl⟩ (fun H locs hI => ?_)
  refine lv_if_eq (tgt := 41) hx hb (dc tbX7_step_k 18 rfl) rfl (fun c11 => ?_) (fun c11 => ?_)
  · have hf := ite_t c11 hf
    refine lv_iconst (v := 0) hx hb (dc tbX7_step_k 24 rfl) ic_0 ?_
    cases hf
    exact g_iret hx hb hr hlk hI (dc tbX7_step_k 25 rfl)
  · have hf := ite_f c11 hf
    refine lv_aload_n hx hb (dc tbX7_step_k 19 rfl) rfl (lv_at hl 0 rfl) ?_
    refine lv_iload_n hx hb (dc tbX7_step_k 20 rfl) rfl (lv_at hl 1 rfl) ?_
    refine lv_iload_n hx hb (dc tbX7_step_k 21 rfl) rfl (lv_at hl 2 rfl) ?_
    obtain ⟨r13, q12, hf⟩ := cap_s hf
    refine g_callVi hx hb hml hown hts hK hap hsx hI (tX7_stepOf l hk0 q12 H.size) cv_X7_stepOf q_t8_203 rfl rfl ⟨Nat.le_of_ble_eq_true rfl, Nat.le_of_ble_eq_true rfl⟩ hk0.1 (by simp) rfl rfl rfl hl.1 rfl (Nat.le_of_ble_eq_true rfl) (dc tbX7_step_k 22 rfl) ⟨Nat.le_of_ble_eq_true rfl, Nat.le_of_ble_eq_true rfl⟩ (fun H locs hI => ?_)
    refine lv_goto (tgt := 42) hx hb (dc tbX7_step_k 23 rfl) rfl ?_
    cases hf
    exact g_iret hx hb hr hlk hI (dc tbX7_step_k 25 rfl)
theorem cv_X7_step : cvF RX7 yX7_step cX7_step 3 (some .int) 2 := ⟨q_t8_199, q_t8_200, q_t1_11, q_t8_201, by decide +kernel⟩
def mX7_costSoFar (k0 : Nat) (M : Mem) : Option (Mem × Int32) := bnd (wr M k0 5 (0 : Int32)) (fun M1 => cap (mX7_sumOfCosts k0 M1) (fun r4 => some (M1, r4)))
set_option maxHeartbeats 4000000 in
set_option maxRecDepth 100000 in
theorem tX7_costSoFar (l : Launch) {G : GT} {kd : Nat → Nat × Nat} {ad : Nat → Nat} {k0 : Nat} (hk0 : kModel kd k0) {M : Mem} {MO : Mem} {vo : Int32} (hf : mX7_costSoFar k0 M = some (MO, vo)) (n : Nat) : Met l yX7_costSoFar (Cond.code yX7_costSoFar cX7_costSoFar 1 (some .int) :: WA) (rmO 2 0 0) (Pg G kd ad n [.ref (ad k0)] M) (Qg G kd ad n MO (some (.int vo))) 0 0 (AS kd ad n) := by
  refine g_body (own := RX7) (by decide) rfl ?_ (Nat.le_of_ble_eq_true rfl)
  intro p e s m args below meth c C _ H locs ls hI hl
  obtain ⟨hx, hb, hml, hr, hown, hts, hlk, hK, hap, hsx⟩ := id C
  have hl : lv_has ls 1 [(0, .ref (ad k0))] := hl
  unfold mX7_costSoFar at hf
  refine lv_aload_n hx hb (dc tbX7_costSoFar_k 0 rfl) rfl (lv_at hl 0 rfl) ?_
  refine lv_iconst (v := 0) hx hb (dc tbX7_costSoFar_k 1 rfl) ic_0 ?_
  obtain ⟨M1, e2, hf⟩ := bnd_s hf
  refine gp7_5 hx hb hts hown hK hap hI hk0.1 q_t7_81 (dc tbX7_costSoFar_k 2 rfl) e2 (fun H locs hI => ?_)
  refine lv_aload_n hx hb (dc tbX7_costSoFar_k 3 rfl) rfl (lv_at hl 0 rfl) ?_
  obtain ⟨r4, q3, hf⟩ := cap_s hf
  refine g_callVi hx hb hml hown hts hK hap hsx hI (tX7_sumOfCosts l hk0 q3 H.size) cv_X7_sumOfCosts q_t8_211 rfl rfl ⟨Nat.le_of_ble_eq_true rfl, Nat.le_of_ble_eq_true rfl⟩ hk0.1 (by simp) rfl rfl rfl hl.1 rfl (Nat.le_of_ble_eq_true rfl) (dc tbX7_costSoFar_k 4 rfl) ⟨Nat.le_of_ble_eq_true rfl, Nat.le_of_ble_eq_true rfl⟩ (fun H locs hI => ?_)
  cases hf
  exact g_iret hx hb hr hlk hI (dc tbX7_costSoFar_k 5 rfl)
theorem cv_X7_costSoFar : cvF RX7 yX7_costSoFar cX7_costSoFar 1 (some .int) 0 := ⟨q_t8_208, q_t8_209, q_t1_11, q_t8_210, by decide +kernel⟩
def mX7_reason (k0 : Nat) (x1 : Int32) (x2 : Int32) (M : Mem) : Option (Mem × Int32) := cap (mX7_isBend k0 x1 M) (fun r2 => cap (mX7_isSide x2 M) (fun r5 => cal (mX7_good_ k0 r2 r5 M) (fun M9 r8 => ite2 (r8 = 0) (some (M9, (0 : Int32))) (chk (okb (52 : Int32) 86) (cal (mX7_reasonOf k0 x1 x2 (rd M9 (k0 + 1) ((52 : Int32)).toNatClampNeg) M9) (fun M14 r13 => some (M14, r13)))))))
set_option maxHeartbeats 4000000 in
set_option maxRecDepth 100000 in
theorem tX7_reason (l : Launch) {G : GT} {kd : Nat → Nat × Nat} {ad : Nat → Nat} {k0 : Nat} (hk0 : kModel kd k0) {x1 : Int32} {x2 : Int32} {M : Mem} {MO : Mem} {vo : Int32} (hf : mX7_reason k0 x1 x2 M = some (MO, vo)) (n : Nat) : Met l yX7_reason (Cond.code yX7_reason cX7_reason 3 (some .int) :: WA) (rmO 6 0 0) (Pg G kd ad n [.ref (ad k0), .int x1, .int x2] M) (Qg G kd ad n MO (some (.int vo))) 0 0 (AS kd ad n) := by
  refine g_body (own := RX7) (by decide) rfl ?_ (Nat.le_of_ble_eq_true rfl)
  intro p e s m args below meth c C _ H locs ls hI hl
  obtain ⟨hx, hb, hml, hr, hown, hts, hlk, hK, hap, hsx⟩ := id C
  have hl : lv_has ls 3 [(0, .ref (ad k0)), (1, .int x1), (2, .int x2)] := hl
  unfold mX7_reason at hf
  refine lv_aload_n hx hb (dc tbX7_reason_k 0 rfl) rfl (lv_at hl 0 rfl) ?_
  refine lv_aload_n hx hb (dc tbX7_reason_k 1 rfl) rfl (lv_at hl 0 rfl) ?_
  refine lv_iload_n hx hb (dc tbX7_reason_k 2 rfl) rfl (lv_at hl 1 rfl) ?_
  obtain ⟨r2, q1, hf⟩ := cap_s hf
  refine g_callVi hx hb hml hown hts hK hap hsx hI (tX7_isBend l hk0 q1 H.size) cv_X7_isBend q_t8_64 rfl rfl ⟨Nat.le_of_ble_eq_true rfl, Nat.le_of_ble_eq_true rfl⟩ hk0.1 (by simp) rfl rfl rfl hl.1 rfl (Nat.le_of_ble_eq_true rfl) (dc tbX7_reason_k 3 rfl) ⟨Nat.le_of_ble_eq_true rfl, Nat.le_of_ble_eq_true rfl⟩ (fun H locs hI => ?_)
  refine lv_iload_n hx hb (dc tbX7_reason_k 4 rfl) rfl (lv_at hl 2 rfl) ?_
  obtain ⟨r5, q4, hf⟩ := cap_s hf
  refine g_callSi hx hb hml hown hts hK hap hsx hI (tX7_isSide l  q4 H.size) cs_X7_isSide q_t8_219 rfl rfl ⟨Nat.le_of_ble_eq_true rfl, Nat.le_of_ble_eq_true rfl⟩ rfl hl.1 rfl (Nat.le_of_ble_eq_true rfl) (dc tbX7_reason_k 5 rfl) ⟨Nat.le_of_ble_eq_true rfl, Nat.le_of_ble_eq_true rfl⟩ (fun H locs hI => ?_)
  obtain ⟨M9, r8, q7, hf⟩ := cal_s hf
  refine g_callVi hx hb hml hown hts hK hap hsx hI (tX7_good_ l hk0 q7 H.size) cv_X7_good_ q_t8_186 rfl rfl ⟨Nat.le_of_ble_eq_true rfl, Nat.le_of_ble_eq_true rfl⟩ hk0.1 (by simp) rfl rfl rfl hl.1 rfl (Nat.le_of_ble_eq_true rfl) (dc tbX7_reason_k 6 rfl) ⟨Nat.le_of_ble_eq_true rfl, Nat.le_of_ble_eq_true rfl⟩ (fun H locs hI => ?_)
  refine lv_if_eq (tgt := 32) hx hb (dc tbX7_reason_k 7 rfl) rfl (fun c10 => ?_) (fun c10 => ?_)
  · have hf := ite_t c10 hf
    refine lv_iconst (v := 0) hx hb (dc tbX7_reason_k 17 rfl) ic_0 ?_
    cases hf
    exact g_iret hx hb hr hlk hI (dc tbX7_reason_k 18 rfl)
  · have hf := ite_f c10 hf
    refine lv_aload_n hx hb (dc tbX7_reason_k 8 rfl) rfl (lv_at hl 0 rfl) ?_
    refine lv_iload_n hx hb (dc tbX7_reason_k 9 rfl) rfl (lv_at hl 1 rfl) ?_
    refine lv_iload_n hx hb (dc tbX7_reason_k 10 rfl) rfl (lv_at hl 2 rfl) ?_
    refine lv_aload_n hx hb (dc tbX7_reason_k 11 rfl) rfl (lv_at hl 0 rfl) ?_
    refine gg7_0 hx hb hts hown hK hI hk0.1 q_t7_76 (dc tbX7_reason_k 12 rfl) ?_
    refine lv_bipush (v := 52) hx hb (dc tbX7_reason_k 13 rfl) bp_52 ?_
    obtain ⟨h11, hf⟩ := chk_s hf
    refine g_iald hx hb hK hI hk0.2.1 (okb_in h11) (dc tbX7_reason_k 14 rfl) ?_
    obtain ⟨M14, r13, q12, hf⟩ := cal_s hf
    refine g_callVi hx hb hml hown hts hK hap hsx hI (tX7_reasonOf l hk0 q12 H.size) cv_X7_reasonOf q_t8_222 rfl rfl ⟨Nat.le_of_ble_eq_true rfl, Nat.le_of_ble_eq_true rfl⟩ hk0.1 (by simp) rfl rfl rfl hl.1 rfl (Nat.le_of_ble_eq_true rfl) (dc tbX7_reason_k 15 rfl) ⟨Nat.le_of_ble_eq_true rfl, Nat.le_of_ble_eq_true rfl⟩ (fun H locs hI => ?_)
    refine lv_goto (tgt := 33) hx hb (dc tbX7_reason_k 16 rfl) rfl ?_
    cases hf
    exact g_iret hx hb hr hlk hI (dc tbX7_reason_k 18 rfl)
theorem cv_X7_reason : cvF RX7 yX7_reason cX7_reason 3 (some .int) 2 := ⟨q_t8_216, q_t8_217, q_t1_11, q_t8_218, by decide +kernel⟩
def mX7_gaugeOf (k0 : Nat) (x1 : Int32) (x2 : Int32) (x3 : Int32) (M : Mem) : Option (Mem × Int32) := cal (mX7_laySheet k0 x1 x2 x3 M) (fun M3 _ => cap (mX7_gaugeLaid k0 x1 x2 M3) (fun r5 => some (M3, r5)))
set_option maxHeartbeats 4000000 in
set_option maxRecDepth 100000 in
theorem tX7_gaugeOf (l : Launch) {G : GT} {kd : Nat → Nat × Nat} {ad : Nat → Nat} {k0 : Nat} (hk0 : kModel kd k0) {x1 : Int32} {x2 : Int32} {x3 : Int32} {M : Mem} {MO : Mem} {vo : Int32} (hf : mX7_gaugeOf k0 x1 x2 x3 M = some (MO, vo)) (n : Nat) : Met l yX7_gaugeOf (Cond.code yX7_gaugeOf cX7_gaugeOf 4 (some .int) :: WA) (rmO 4 0 0) (Pg G kd ad n [.ref (ad k0), .int x1, .int x2, .int x3] M) (Qg G kd ad n MO (some (.int vo))) 0 0 (AS kd ad n) := by
  refine g_body (own := RX7) (by decide) rfl ?_ (Nat.le_of_ble_eq_true rfl)
  intro p e s m args below meth c C _ H locs ls hI hl
  obtain ⟨hx, hb, hml, hr, hown, hts, hlk, hK, hap, hsx⟩ := id C
  have hl : lv_has ls 4 [(0, .ref (ad k0)), (1, .int x1), (2, .int x2), (3, .int x3)] := hl
  unfold mX7_gaugeOf at hf
  refine lv_aload_n hx hb (dc tbX7_gaugeOf_k 0 rfl) rfl (lv_at hl 0 rfl) ?_
  refine lv_iload_n hx hb (dc tbX7_gaugeOf_k 1 rfl) rfl (lv_at hl 1 rfl) ?_
  refine lv_iload_n hx hb (dc tbX7_gaugeOf_k 2 rfl) rfl (lv_at hl 2 rfl) ?_
  refine lv_iload_n hx hb (dc tbX7_gaugeOf_k 3 rfl) rfl (lv_at hl 3 rfl) ?_
  obtain ⟨M3, r2, q1, hf⟩ := cal_s hf
  refine g_callVv hx hb hml hown hts hK hap hsx hI (tX7_laySheet l hk0 q1 H.size) cv_X7_laySheet q_t8_237 rfl rfl ⟨Nat.le_of_ble_eq_true rfl, Nat.le_of_ble_eq_true rfl⟩ hk0.1 (by simp) rfl rfl rfl hl.1 rfl (Nat.le_of_ble_eq_true rfl) (dc tbX7_gaugeOf_k 4 rfl) ⟨Nat.le_of_ble_eq_true rfl, Nat.le_of_ble_eq_true rfl⟩ (fun H locs hI => ?_)
  refine lv_aload_n hx hb (dc tbX7_gaugeOf_k 5 rfl) rfl (lv_at hl 0 rfl) ?_
  refine lv_iload_n hx hb (dc tbX7_gaugeOf_k 6 rfl) rfl (lv_at hl 1 rfl) ?_
  refine lv_iload_n hx hb (dc tbX7_gaugeOf_k 7 rfl) rfl (lv_at hl 2 rfl) ?_
  obtain ⟨r5, q4, hf⟩ := cap_s hf
  refine g_callVi hx hb hml hown hts hK hap hsx hI (tX7_gaugeLaid l hk0 q4 H.size) cv_X7_gaugeLaid q_t9_9 rfl rfl ⟨Nat.le_of_ble_eq_true rfl, Nat.le_of_ble_eq_true rfl⟩ hk0.1 (by simp) rfl rfl rfl hl.1 rfl (Nat.le_of_ble_eq_true rfl) (dc tbX7_gaugeOf_k 8 rfl) ⟨Nat.le_of_ble_eq_true rfl, Nat.le_of_ble_eq_true rfl⟩ (fun H locs hI => ?_)
  cases hf
  exact g_iret hx hb hr hlk hI (dc tbX7_gaugeOf_k 9 rfl)
theorem cv_X7_gaugeOf : cvF RX7 yX7_gaugeOf cX7_gaugeOf 4 (some .int) 3 := ⟨q_t9_50, q_s6_3, q_t1_11, q_t9_51, by decide +kernel⟩
def mX7_gauge (k0 : Nat) (x1 : Int32) (x2 : Int32) (M : Mem) : Option (Mem × Int32) := cap (mX7_isBend k0 x1 M) (fun r2 => cap (mX7_isSide x2 M) (fun r5 => cal (mX7_good_ k0 r2 r5 M) (fun M9 r8 => ite2 (r8 = 0) (some (M9, (0 : Int32))) (chk (okb (52 : Int32) 86) (cal (mX7_gaugeOf k0 x1 x2 (rd M9 (k0 + 1) ((52 : Int32)).toNatClampNeg) M9) (fun M14 r13 => some (M14, r13)))))))
set_option maxHeartbeats 4000000 in
set_option maxRecDepth 100000 in
theorem tX7_gauge (l : Launch) {G : GT} {kd : Nat → Nat × Nat} {ad : Nat → Nat} {k0 : Nat} (hk0 : kModel kd k0) {x1 : Int32} {x2 : Int32} {M : Mem} {MO : Mem} {vo : Int32} (hf : mX7_gauge k0 x1 x2 M = some (MO, vo)) (n : Nat) : Met l yX7_gauge (Cond.code yX7_gauge cX7_gauge 3 (some .int) :: WA) (rmO 5 0 0) (Pg G kd ad n [.ref (ad k0), .int x1, .int x2] M) (Qg G kd ad n MO (some (.int vo))) 0 0 (AS kd ad n) := by
  refine g_body (own := RX7) (by decide) rfl ?_ (Nat.le_of_ble_eq_true rfl)
  intro p e s m args below meth c C _ H locs ls hI hl
  obtain ⟨hx, hb, hml, hr, hown, hts, hlk, hK, hap, hsx⟩ := id C
  have hl : lv_has ls 3 [(0, .ref (ad k0)), (1, .int x1), (2, .int x2)] := hl
  unfold mX7_gauge at hf
  refine lv_aload_n hx hb (dc tbX7_gauge_k 0 rfl) rfl (lv_at hl 0 rfl) ?_
  refine lv_aload_n hx hb (dc tbX7_gauge_k 1 rfl) rfl (lv_at hl 0 rfl) ?_
  refine lv_iload_n hx hb (dc tbX7_gauge_k 2 rfl) rfl (lv_at hl 1 rfl) ?_
  obtain ⟨r2, q1, hf⟩ := cap_s hf
  refine g_callVi hx hb hml hown hts hK hap hsx hI (tX7_isBend l hk0 q1 H.size) cv_X7_isBend q_t8_64 rfl rfl ⟨Nat.le_of_ble_eq_true rfl, Nat.le_of_ble_eq_true rfl⟩ hk0.1 (by simp) rfl rfl rfl hl.1 rfl (Nat.le_of_ble_eq_true rfl) (dc tbX7_gauge_k 3 rfl) ⟨Nat.le_of_ble_eq_true rfl, Nat.le_of_ble_eq_true rfl⟩ (fun H locs hI => ?_)
  refine lv_iload_n hx hb (dc tbX7_gauge_k 4 rfl) rfl (lv_at hl 2 rfl) ?_
  obtain ⟨r5, q4, hf⟩ := cap_s hf
  refine g_callSi hx hb hml hown hts hK hap hsx hI (tX7_isSide l  q4 H.size) cs_X7_isSide q_t8_219 rfl rfl ⟨Nat.le_of_ble_eq_true rfl, Nat.le_of_ble_eq_true rfl⟩ rfl hl.1 rfl (Nat.le_of_ble_eq_true rfl) (dc tbX7_gauge_k 5 rfl) ⟨Nat.le_of_ble_eq_true rfl, Nat.le_of_ble_eq_true rfl⟩ (fun H locs hI => ?_)
  obtain ⟨M9, r8, q7, hf⟩ := cal_s hf
  refine g_callVi hx hb hml hown hts hK hap hsx hI (tX7_good_ l hk0 q7 H.size) cv_X7_good_ q_t8_186 rfl rfl ⟨Nat.le_of_ble_eq_true rfl, Nat.le_of_ble_eq_true rfl⟩ hk0.1 (by simp) rfl rfl rfl hl.1 rfl (Nat.le_of_ble_eq_true rfl) (dc tbX7_gauge_k 6 rfl) ⟨Nat.le_of_ble_eq_true rfl, Nat.le_of_ble_eq_true rfl⟩ (fun H locs hI => ?_)
  refine lv_if_eq (tgt := 32) hx hb (dc tbX7_gauge_k 7 rfl) rfl (fun c10 => ?_) (fun c10 => ?_)
  · have hf := ite_t c10 hf
    refine lv_iconst (v := 0) hx hb (dc tbX7_gauge_k 17 rfl) ic_0 ?_
    cases hf
    exact g_iret hx hb hr hlk hI (dc tbX7_gauge_k 18 rfl)
  · have hf := ite_f c10 hf
    refine lv_aload_n hx hb (dc tbX7_gauge_k 8 rfl) rfl (lv_at hl 0 rfl) ?_
    refine lv_iload_n hx hb (dc tbX7_gauge_k 9 rfl) rfl (lv_at hl 1 rfl) ?_
    refine lv_iload_n hx hb (dc tbX7_gauge_k 10 rfl) rfl (lv_at hl 2 rfl) ?_
    refine lv_aload_n hx hb (dc tbX7_gauge_k 11 rfl) rfl (lv_at hl 0 rfl) ?_
    refine gg7_0 hx hb hts hown hK hI hk0.1 q_t7_76 (dc tbX7_gauge_k 12 rfl) ?_
    refine lv_bipush (v := 52) hx hb (dc tbX7_gauge_k 13 rfl) bp_52 ?_
    obtain ⟨h11, hf⟩ := chk_s hf
    refine g_iald hx hb hK hI hk0.2.1 (okb_in h11) (dc tbX7_gauge_k 14 rfl) ?_
    obtain ⟨M14, r13, q12, hf⟩ := cal_s hf
    refine g_callVi hx hb hml hown hts hK hap hsx hI (tX7_gaugeOf l hk0 q12 H.size) cv_X7_gaugeOf q_t9_48 rfl rfl ⟨Nat.le_of_ble_eq_true rfl, Nat.le_of_ble_eq_true rfl⟩ hk0.1 (by simp) rfl rfl rfl hl.1 rfl (Nat.le_of_ble_eq_true rfl) (dc tbX7_gauge_k 15 rfl) ⟨Nat.le_of_ble_eq_true rfl, Nat.le_of_ble_eq_true rfl⟩ (fun H locs hI => ?_)
    refine lv_goto (tgt := 33) hx hb (dc tbX7_gauge_k 16 rfl) rfl ?_
    cases hf
    exact g_iret hx hb hr hlk hI (dc tbX7_gauge_k 18 rfl)
theorem cv_X7_gauge : cvF RX7 yX7_gauge cX7_gauge 3 (some .int) 2 := ⟨q_t9_45, q_t9_46, q_t1_11, q_t9_47, by decide +kernel⟩
def mX7_corner_b45 (k0 : Nat) (x1 : Int32) (x2 : Int32) (x3 : Int32) (x4 : Int32) (y1 : Int32) (y2 : Int32) (M : Mem) : Option (Mem × Int32) := cal (mX7_good_ k0 y1 y2 M) (fun M11 r10 => ite2 (r10 = 0) (some (M11, (0 : Int32))) (chk (okb (52 : Int32) 86) (cal (mX7_laySheet k0 x1 x2 (rd M11 (k0 + 1) ((52 : Int32)).toNatClampNeg) M11) (fun M16 _ => ite2 (x4 = 0) (chk (okb x3 9) (some (M16, (rd M16 (k0 + 8) (x3).toNatClampNeg)))) (chk (okb x3 9) (some (M16, (rd M16 (k0 + 9) (x3).toNatClampNeg))))))))
set_option maxHeartbeats 4000000 in
set_option maxRecDepth 100000 in
theorem tX7_corner_b45 {p : Program} {l : Launch} {e : Env} {s : State} {m : MethodId} {args : Array Value} {below : List Frame} {meth : Method} {c : Code} {G : GT} {kd : Nat → Nat × Nat} {ad : Nat → Nat} (C : Cx p s m args meth c cX7_corner 5 (some .int) RX7 G kd ad) {k0 : Nat} (hk0 : kModel kd k0) {MO : Mem} {vo : Int32}   : ∀ (x1 : Int32) (x2 : Int32) (x3 : Int32) (x4 : Int32) (y1 : Int32) (y2 : Int32) (M : Mem), mX7_corner_b45 k0 x1 x2 x3 x4 y1 y2 M = some (MO, vo) → At p l e (rmO 4 0 0) s m args below meth c 0 0 (MQ below (Qg G kd ad s.heap.size MO (some (.int vo))) args s 0 0 (AS kd ad s.heap.size)) G kd ad 5 45 [(0, .ref (ad k0)), (1, .int x1), (2, .int x2), (3, .int x3), (4, .int x4)] [.int y2, .int y1, .ref (ad k0)] M := by
  intro x1 x2 x3 x4 y1 y2 M hf H locs ls hI hl
  obtain ⟨hx, hb, hml, hr, hown, hts, hlk, hK, hap, hsx⟩ := id C
  unfold mX7_corner_b45 at hf
  obtain ⟨M11, r10, q9, hf⟩ := cal_s hf
  refine g_callVi hx hb hml hown hts hK hap hsx hI (tX7_good_ l hk0 q9 H.size) cv_X7_good_ q_t8_186 rfl rfl ⟨Nat.le_of_ble_eq_true rfl, Nat.le_of_ble_eq_true rfl⟩ hk0.1 (by simp) rfl rfl rfl hl.1 rfl (Nat.le_of_ble_eq_true rfl) (dc tbX7_corner_0_k 24 rfl) ⟨Nat.le_of_ble_eq_true rfl, Nat.le_of_ble_eq_true rfl⟩ (fun H locs hI => ?_)
  refine lv_if_ne (tgt := 53) hx hb (dc tbX7_corner_0_k 25 rfl) rfl (fun c12 => ?_) (fun c12 => ?_)
  · have hf := ite_f c12 hf
    refine lv_aload_n hx hb (dc tbX7_corner_0_k 28 rfl) rfl (lv_at hl 0 rfl) ?_
    refine lv_iload_n hx hb (dc tbX7_corner_0_k 29 rfl) rfl (lv_at hl 1 rfl) ?_
    refine lv_iload_n hx hb (dc tbX7_corner_0_k 30 rfl) rfl (lv_at hl 2 rfl) ?_
    refine lv_aload_n hx hb (dc tbX7_corner_0_k 31 rfl) rfl (lv_at hl 0 rfl) ?_
    refine gg7_0 hx hb hts hown hK hI hk0.1 q_t7_76 (dc tbX7_corner_0_k 32 rfl) ?_
    refine lv_bipush (v := 52) hx hb (dc tbX7_corner_0_k 33 rfl) bp_52 ?_
    obtain ⟨h13, hf⟩ := chk_s hf
    refine g_iald hx hb hK hI hk0.2.1 (okb_in h13) (dc tbX7_corner_0_k 34 rfl) ?_
    obtain ⟨M16, r15, q14, hf⟩ := cal_s hf
    refine g_callVv hx hb hml hown hts hK hap hsx hI (tX7_laySheet l hk0 q14 H.size) cv_X7_laySheet q_t8_237 rfl rfl ⟨Nat.le_of_ble_eq_true rfl, Nat.le_of_ble_eq_true rfl⟩ hk0.1 (by simp) rfl rfl rfl hl.1 rfl (Nat.le_of_ble_eq_true rfl) (dc tbX7_corner_0_k 35 rfl) ⟨Nat.le_of_ble_eq_true rfl, Nat.le_of_ble_eq_true rfl⟩ (fun H locs hI => ?_)
    refine lv_iload hx hb (dc tbX7_corner_0_k 36 rfl) (lv_at hl 4 rfl) ?_
    refine lv_if_ne (tgt := 80) hx hb (dc tbX7_corner_0_k 37 rfl) rfl (fun c17 => ?_) (fun c17 => ?_)
    · have hf := ite_f c17 hf
      refine lv_aload_n hx hb (dc tbX7_corner_1_k 3 rfl) rfl (lv_at hl 0 rfl) ?_
      refine gg7_20 hx hb hts hown hK hI hk0.1 q_t7_96 (dc tbX7_corner_1_k 4 rfl) ?_
      refine lv_iload_n hx hb (dc tbX7_corner_1_k 5 rfl) rfl (lv_at hl 3 rfl) ?_
      obtain ⟨h18, hf⟩ := chk_s hf
      refine g_iald hx hb hK hI hk0.2.2.2.2.2.2.2.2.2.1 (okb_in h18) (dc tbX7_corner_1_k 6 rfl) ?_
      cases hf
      exact g_iret hx hb hr hlk hI (dc tbX7_corner_1_k 7 rfl)
    · have hf := ite_t c17 hf
      refine lv_aload_n hx hb (dc tbX7_corner_0_k 38 rfl) rfl (lv_at hl 0 rfl) ?_
      refine gg7_19 hx hb hts hown hK hI hk0.1 q_t7_95 (dc tbX7_corner_0_k 39 rfl) ?_
      refine lv_iload_n hx hb (dc tbX7_corner_1_k 0 rfl) rfl (lv_at hl 3 rfl) ?_
      obtain ⟨h19, hf⟩ := chk_s hf
      refine g_iald hx hb hK hI hk0.2.2.2.2.2.2.2.2.1 (okb_in h19) (dc tbX7_corner_1_k 1 rfl) ?_
      refine lv_goto (tgt := 86) hx hb (dc tbX7_corner_1_k 2 rfl) rfl ?_
      cases hf
      exact g_iret hx hb hr hlk hI (dc tbX7_corner_1_k 7 rfl)
  · have hf := ite_t c12 hf
    refine lv_iconst (v := 0) hx hb (dc tbX7_corner_0_k 26 rfl) ic_0 ?_
    cases hf
    exact g_iret hx hb hr hlk hI (dc tbX7_corner_0_k 27 rfl)
def mX7_corner_b44 (k0 : Nat) (x1 : Int32) (x2 : Int32) (x3 : Int32) (x4 : Int32) (y1 : Int32) (M : Mem) : Option (Mem × Int32) := mX7_corner_b45 k0 x1 x2 x3 x4 y1 (0 : Int32) M
set_option maxHeartbeats 4000000 in
set_option maxRecDepth 100000 in
theorem tX7_corner_b44 {p : Program} {l : Launch} {e : Env} {s : State} {m : MethodId} {args : Array Value} {below : List Frame} {meth : Method} {c : Code} {G : GT} {kd : Nat → Nat × Nat} {ad : Nat → Nat} (C : Cx p s m args meth c cX7_corner 5 (some .int) RX7 G kd ad) {k0 : Nat} (hk0 : kModel kd k0) {MO : Mem} {vo : Int32}   : ∀ (x1 : Int32) (x2 : Int32) (x3 : Int32) (x4 : Int32) (y1 : Int32) (M : Mem), mX7_corner_b44 k0 x1 x2 x3 x4 y1 M = some (MO, vo) → At p l e (rmO 4 0 0) s m args below meth c 0 0 (MQ below (Qg G kd ad s.heap.size MO (some (.int vo))) args s 0 0 (AS kd ad s.heap.size)) G kd ad 5 44 [(0, .ref (ad k0)), (1, .int x1), (2, .int x2), (3, .int x3), (4, .int x4)] [.int y1, .ref (ad k0)] M := by
  intro x1 x2 x3 x4 y1 M hf H locs ls hI hl
  obtain ⟨hx, hb, hml, hr, hown, hts, hlk, hK, hap, hsx⟩ := id C
  unfold mX7_corner_b44 at hf
  refine lv_iconst (v := 0) hx hb (dc tbX7_corner_0_k 23 rfl) ic_0 ?_
  exact tX7_corner_b45 C hk0 x1 x2 x3 x4 y1 (0 : Int32) M hf _ _ _ hI (lv_sub hl [0, 1, 2, 3, 4] rfl)
def mX7_corner_b22 (k0 : Nat) (x1 : Int32) (x2 : Int32) (x3 : Int32) (x4 : Int32) (y1 : Int32) (M : Mem) : Option (Mem × Int32) := cap (mX7_isSide x2 M) (fun r6 => ite2 (r6 = 0) (mX7_corner_b44 k0 x1 x2 x3 x4 y1 M) (cap (mX7_between (x4).toInt64 (0 : Int64) (1 : Int64) M) (fun r21 => ite2 (r21 = 0) (mX7_corner_b44 k0 x1 x2 x3 x4 y1 M) (mX7_corner_b45 k0 x1 x2 x3 x4 y1 (1 : Int32) M))))
set_option maxHeartbeats 4000000 in
set_option maxRecDepth 100000 in
theorem tX7_corner_b22 {p : Program} {l : Launch} {e : Env} {s : State} {m : MethodId} {args : Array Value} {below : List Frame} {meth : Method} {c : Code} {G : GT} {kd : Nat → Nat × Nat} {ad : Nat → Nat} (C : Cx p s m args meth c cX7_corner 5 (some .int) RX7 G kd ad) {k0 : Nat} (hk0 : kModel kd k0) {MO : Mem} {vo : Int32}   : ∀ (x1 : Int32) (x2 : Int32) (x3 : Int32) (x4 : Int32) (y1 : Int32) (M : Mem), mX7_corner_b22 k0 x1 x2 x3 x4 y1 M = some (MO, vo) → At p l e (rmO 4 0 0) s m args below meth c 0 0 (MQ below (Qg G kd ad s.heap.size MO (some (.int vo))) args s 0 0 (AS kd ad s.heap.size)) G kd ad 5 22 [(0, .ref (ad k0)), (1, .int x1), (2, .int x2), (3, .int x3), (4, .int x4)] [.int y1, .ref (ad k0)] M := by
  intro x1 x2 x3 x4 y1 M hf H locs ls hI hl
  obtain ⟨hx, hb, hml, hr, hown, hts, hlk, hK, hap, hsx⟩ := id C
  unfold mX7_corner_b22 at hf
  refine lv_iload_n hx hb (dc tbX7_corner_0_k 12 rfl) rfl (lv_at hl 2 rfl) ?_
  obtain ⟨r6, q5, hf⟩ := cap_s hf
  refine g_callSi hx hb hml hown hts hK hap hsx hI (tX7_isSide l  q5 H.size) cs_X7_isSide q_t8_219 rfl rfl ⟨Nat.le_of_ble_eq_true rfl, Nat.le_of_ble_eq_true rfl⟩ rfl hl.1 rfl (Nat.le_of_ble_eq_true rfl) (dc tbX7_corner_0_k 13 rfl) ⟨Nat.le_of_ble_eq_true rfl, Nat.le_of_ble_eq_true rfl⟩ (fun H locs hI => ?_)
  refine lv_if_eq (tgt := 44) hx hb (dc tbX7_corner_0_k 14 rfl) rfl (fun c8 => ?_) (fun c8 => ?_)
  · have hf := ite_t c8 hf
    exact tX7_corner_b44 C hk0 x1 x2 x3 x4 y1 M hf _ _ _ hI (lv_sub hl [0, 1, 2, 3, 4] rfl)
  · have hf := ite_f c8 hf
    refine lv_iload hx hb (dc tbX7_corner_0_k 15 rfl) (lv_at hl 4 rfl) ?_
    refine lv_i2l hx hb (dc tbX7_corner_0_k 16 rfl) rfl ?_
    refine lv_lconst (v := 0) hx hb (dc tbX7_corner_0_k 17 rfl) (by decide) ?_
    refine lv_lconst (v := 1) hx hb (dc tbX7_corner_0_k 18 rfl) (by decide) ?_
    obtain ⟨r21, q20, hf⟩ := cap_s hf
    refine g_callSi hx hb hml hown hts hK hap hsx hI (tX7_between l  q20 H.size) cs_X7_between q_t7_190 rfl rfl ⟨Nat.le_of_ble_eq_true rfl, Nat.le_of_ble_eq_true rfl⟩ rfl hl.1 rfl (Nat.le_of_ble_eq_true rfl) (dc tbX7_corner_0_k 19 rfl) ⟨Nat.le_of_ble_eq_true rfl, Nat.le_of_ble_eq_true rfl⟩ (fun H locs hI => ?_)
    refine lv_if_eq (tgt := 44) hx hb (dc tbX7_corner_0_k 20 rfl) rfl (fun c23 => ?_) (fun c23 => ?_)
    · have hf := ite_t c23 hf
      exact tX7_corner_b44 C hk0 x1 x2 x3 x4 y1 M hf _ _ _ hI (lv_sub hl [0, 1, 2, 3, 4] rfl)
    · have hf := ite_f c23 hf
      refine lv_iconst (v := 1) hx hb (dc tbX7_corner_0_k 21 rfl) ic_1 ?_
      refine lv_goto (tgt := 45) hx hb (dc tbX7_corner_0_k 22 rfl) rfl ?_
      exact tX7_corner_b45 C hk0 x1 x2 x3 x4 y1 (1 : Int32) M hf _ _ _ hI (lv_sub hl [0, 1, 2, 3, 4] rfl)
def mX7_corner_b21 (k0 : Nat) (x1 : Int32) (x2 : Int32) (x3 : Int32) (x4 : Int32) (M : Mem) : Option (Mem × Int32) := mX7_corner_b22 k0 x1 x2 x3 x4 (0 : Int32) M
set_option maxHeartbeats 4000000 in
set_option maxRecDepth 100000 in
theorem tX7_corner_b21 {p : Program} {l : Launch} {e : Env} {s : State} {m : MethodId} {args : Array Value} {below : List Frame} {meth : Method} {c : Code} {G : GT} {kd : Nat → Nat × Nat} {ad : Nat → Nat} (C : Cx p s m args meth c cX7_corner 5 (some .int) RX7 G kd ad) {k0 : Nat} (hk0 : kModel kd k0) {MO : Mem} {vo : Int32}   : ∀ (x1 : Int32) (x2 : Int32) (x3 : Int32) (x4 : Int32) (M : Mem), mX7_corner_b21 k0 x1 x2 x3 x4 M = some (MO, vo) → At p l e (rmO 4 0 0) s m args below meth c 0 0 (MQ below (Qg G kd ad s.heap.size MO (some (.int vo))) args s 0 0 (AS kd ad s.heap.size)) G kd ad 5 21 [(0, .ref (ad k0)), (1, .int x1), (2, .int x2), (3, .int x3), (4, .int x4)] [.ref (ad k0)] M := by
  intro x1 x2 x3 x4 M hf H locs ls hI hl
  obtain ⟨hx, hb, hml, hr, hown, hts, hlk, hK, hap, hsx⟩ := id C
  unfold mX7_corner_b21 at hf
  refine lv_iconst (v := 0) hx hb (dc tbX7_corner_0_k 11 rfl) ic_0 ?_
  exact tX7_corner_b22 C hk0 x1 x2 x3 x4 (0 : Int32) M hf _ _ _ hI (lv_sub hl [0, 1, 2, 3, 4] rfl)
def mX7_corner (k0 : Nat) (x1 : Int32) (x2 : Int32) (x3 : Int32) (x4 : Int32) (M : Mem) : Option (Mem × Int32) := cap (mX7_isBend k0 x1 M) (fun r2 => ite2 (r2 = 0) (mX7_corner_b21 k0 x1 x2 x3 x4 M) (cap (mX7_isLeg k0 x3 M) (fun r25 => ite2 (r25 = 0) (mX7_corner_b21 k0 x1 x2 x3 x4 M) (mX7_corner_b22 k0 x1 x2 x3 x4 (1 : Int32) M))))
set_option maxHeartbeats 4000000 in
set_option maxRecDepth 100000 in
theorem tX7_corner (l : Launch) {G : GT} {kd : Nat → Nat × Nat} {ad : Nat → Nat} {k0 : Nat} (hk0 : kModel kd k0) {x1 : Int32} {x2 : Int32} {x3 : Int32} {x4 : Int32} {M : Mem} {MO : Mem} {vo : Int32} (hf : mX7_corner k0 x1 x2 x3 x4 M = some (MO, vo)) (n : Nat) : Met l yX7_corner (Cond.code yX7_corner cX7_corner 5 (some .int) :: WA) (rmO 4 0 0) (Pg G kd ad n [.ref (ad k0), .int x1, .int x2, .int x3, .int x4] M) (Qg G kd ad n MO (some (.int vo))) 0 0 (AS kd ad n) := by
  refine g_body (own := RX7) (by decide) rfl ?_ (Nat.le_of_ble_eq_true rfl)
  intro p e s m args below meth c C _ H locs ls hI hl
  obtain ⟨hx, hb, hml, hr, hown, hts, hlk, hK, hap, hsx⟩ := id C
  have hl : lv_has ls 5 [(0, .ref (ad k0)), (1, .int x1), (2, .int x2), (3, .int x3), (4, .int x4)] := hl
  unfold mX7_corner at hf
  refine lv_aload_n hx hb (dc tbX7_corner_0_k 0 rfl) rfl (lv_at hl 0 rfl) ?_
  refine lv_aload_n hx hb (dc tbX7_corner_0_k 1 rfl) rfl (lv_at hl 0 rfl) ?_
  refine lv_iload_n hx hb (dc tbX7_corner_0_k 2 rfl) rfl (lv_at hl 1 rfl) ?_
  obtain ⟨r2, q1, hf⟩ := cap_s hf
  refine g_callVi hx hb hml hown hts hK hap hsx hI (tX7_isBend l hk0 q1 H.size) cv_X7_isBend q_t8_64 rfl rfl ⟨Nat.le_of_ble_eq_true rfl, Nat.le_of_ble_eq_true rfl⟩ hk0.1 (by simp) rfl rfl rfl hl.1 rfl (Nat.le_of_ble_eq_true rfl) (dc tbX7_corner_0_k 3 rfl) ⟨Nat.le_of_ble_eq_true rfl, Nat.le_of_ble_eq_true rfl⟩ (fun H locs hI => ?_)
  refine lv_if_eq (tgt := 21) hx hb (dc tbX7_corner_0_k 4 rfl) rfl (fun c4 => ?_) (fun c4 => ?_)
  · have hf := ite_t c4 hf
    exact tX7_corner_b21 C hk0 x1 x2 x3 x4 M hf _ _ _ hI (lv_sub hl [0, 1, 2, 3, 4] rfl)
  · have hf := ite_f c4 hf
    refine lv_aload_n hx hb (dc tbX7_corner_0_k 5 rfl) rfl (lv_at hl 0 rfl) ?_
    refine lv_iload_n hx hb (dc tbX7_corner_0_k 6 rfl) rfl (lv_at hl 3 rfl) ?_
    obtain ⟨r25, q24, hf⟩ := cap_s hf
    refine g_callVi hx hb hml hown hts hK hap hsx hI (tX7_isLeg l hk0 q24 H.size) cv_X7_isLeg q_t8_52 rfl rfl ⟨Nat.le_of_ble_eq_true rfl, Nat.le_of_ble_eq_true rfl⟩ hk0.1 (by simp) rfl rfl rfl hl.1 rfl (Nat.le_of_ble_eq_true rfl) (dc tbX7_corner_0_k 7 rfl) ⟨Nat.le_of_ble_eq_true rfl, Nat.le_of_ble_eq_true rfl⟩ (fun H locs hI => ?_)
    refine lv_if_eq (tgt := 21) hx hb (dc tbX7_corner_0_k 8 rfl) rfl (fun c27 => ?_) (fun c27 => ?_)
    · have hf := ite_t c27 hf
      exact tX7_corner_b21 C hk0 x1 x2 x3 x4 M hf _ _ _ hI (lv_sub hl [0, 1, 2, 3, 4] rfl)
    · have hf := ite_f c27 hf
      refine lv_iconst (v := 1) hx hb (dc tbX7_corner_0_k 9 rfl) ic_1 ?_
      refine lv_goto (tgt := 22) hx hb (dc tbX7_corner_0_k 10 rfl) rfl ?_
      exact tX7_corner_b22 C hk0 x1 x2 x3 x4 (1 : Int32) M hf _ _ _ hI (lv_sub hl [0, 1, 2, 3, 4] rfl)
theorem cv_X7_corner : cvF RX7 yX7_corner cX7_corner 5 (some .int) 4 := ⟨q_t9_53, q_t9_54, q_t1_11, q_t9_55, by decide +kernel⟩
def mX7_top_b73 (k0 : Nat) (ih36 : Int32 → Int32 → Int32 → Int32 → Mem → Option (Mem × Int32)) (x1 : Int32) (x2 : Int32) (x4 : Int32) (y0 : Int32) (M : Mem) : Option (Mem × Int32) := bnd (x4 + (1 : Int32)) (fun x4_74 => ih36 x1 x2 y0 x4_74 M)
set_option maxHeartbeats 4000000 in
set_option maxRecDepth 100000 in
theorem tX7_top_b73 {p : Program} {l : Launch} {e : Env} {s : State} {m : MethodId} {args : Array Value} {below : List Frame} {meth : Method} {c : Code} {G : GT} {kd : Nat → Nat × Nat} {ad : Nat → Nat} (C : Cx p s m args meth c cX7_top 5 (some .int) RX7 G kd ad) {k0 : Nat} (hk0 : kModel kd k0) {MO : Mem} {vo : Int32} {ih36 : Int32 → Int32 → Int32 → Int32 → Mem → Option (Mem × Int32)} (hih36 : ∀ (x1 : Int32) (x2 : Int32) (x3 : Int32) (x4 : Int32) (M : Mem), ih36 x1 x2 x3 x4 M = some (MO, vo) → At p l e (rmO 4 0 0) s m args below meth c 0 0 (MQ below (Qg G kd ad s.heap.size MO (some (.int vo))) args s 0 0 (AS kd ad s.heap.size)) G kd ad 5 36 [(0, .ref (ad k0)), (1, .int x1), (2, .int x2), (3, .int x3), (4, .int x4)] [] M) : ∀ (x1 : Int32) (x2 : Int32) (x4 : Int32) (y0 : Int32) (M : Mem), mX7_top_b73 k0 ih36 x1 x2 x4 y0 M = some (MO, vo) → At p l e (rmO 4 0 0) s m args below meth c 0 0 (MQ below (Qg G kd ad s.heap.size MO (some (.int vo))) args s 0 0 (AS kd ad s.heap.size)) G kd ad 5 73 [(0, .ref (ad k0)), (1, .int x1), (2, .int x2), (4, .int x4)] [.int y0] M := by
  intro x1 x2 x4 y0 M hf H locs ls hI hl
  obtain ⟨hx, hb, hml, hr, hown, hts, hlk, hK, hap, hsx⟩ := id C
  unfold mX7_top_b73 at hf
  refine lv_istore_n (lv' := [(3, .int y0), (0, .ref (ad k0)), (1, .int x1), (2, .int x2), (4, .int x4)]) hx hb (dc tbX7_top_1_k 2 rfl) rfl hl (by decide) rfl (fun ls hl => ?_)
  obtain ⟨x4_74, e22, hf⟩ := bnd_s hf
  refine lv_iinc (v := x4_74) (lv' := [(4, .int x4_74), (3, .int y0), (0, .ref (ad k0)), (1, .int x1), (2, .int x2)]) hx hb (dc tbX7_top_1_k 3 rfl) hl (k := 4) rfl (ii_e e22 ic_1) (by decide) rfl (fun ls hl => ?_)
  refine lv_goto (tgt := 36) hx hb (dc tbX7_top_1_k 4 rfl) rfl ?_
  exact hih36 x1 x2 y0 x4_74 M hf _ _ _ hI (lv_sub hl [2, 3, 4, 1, 0] rfl)
def mX7_top_b36 (k0 : Nat) (ih36 : Int32 → Int32 → Int32 → Int32 → Mem → Option (Mem × Int32)) (x1 : Int32) (x2 : Int32) (x3 : Int32) (x4 : Int32) (M : Mem) : Option (Mem × Int32) := chk (okb (1 : Int32) 86) (ite2 ((rd M (k0 + 1) ((1 : Int32)).toNatClampNeg) ≤ x4) (some (M, x3)) (cap (mX7_isClamped k0 x4 x1 x2 M) (fun r18 => ite2 (r18 = 0) (chk (okb x4 9) (mX7_top_b73 k0 ih36 x1 x2 x4 (imax x3 (rd M (k0 + 9) (x4).toNatClampNeg)) M)) (mX7_top_b73 k0 ih36 x1 x2 x4 x3 M))))
set_option maxHeartbeats 4000000 in
set_option maxRecDepth 100000 in
theorem tX7_top_b36 {p : Program} {l : Launch} {e : Env} {s : State} {m : MethodId} {args : Array Value} {below : List Frame} {meth : Method} {c : Code} {G : GT} {kd : Nat → Nat × Nat} {ad : Nat → Nat} (C : Cx p s m args meth c cX7_top 5 (some .int) RX7 G kd ad) {k0 : Nat} (hk0 : kModel kd k0) {MO : Mem} {vo : Int32} {ih36 : Int32 → Int32 → Int32 → Int32 → Mem → Option (Mem × Int32)} (hih36 : ∀ (x1 : Int32) (x2 : Int32) (x3 : Int32) (x4 : Int32) (M : Mem), ih36 x1 x2 x3 x4 M = some (MO, vo) → At p l e (rmO 4 0 0) s m args below meth c 0 0 (MQ below (Qg G kd ad s.heap.size MO (some (.int vo))) args s 0 0 (AS kd ad s.heap.size)) G kd ad 5 36 [(0, .ref (ad k0)), (1, .int x1), (2, .int x2), (3, .int x3), (4, .int x4)] [] M) : ∀ (x1 : Int32) (x2 : Int32) (x3 : Int32) (x4 : Int32) (M : Mem), mX7_top_b36 k0 ih36 x1 x2 x3 x4 M = some (MO, vo) → At p l e (rmO 4 0 0) s m args below meth c 0 0 (MQ below (Qg G kd ad s.heap.size MO (some (.int vo))) args s 0 0 (AS kd ad s.heap.size)) G kd ad 5 36 [(0, .ref (ad k0)), (1, .int x1), (2, .int x2), (3, .int x3), (4, .int x4)] [] M := by
  intro x1 x2 x3 x4 M hf H locs ls hI hl
  obtain ⟨hx, hb, hml, hr, hown, hts, hlk, hK, hap, hsx⟩ := id C
  unfold mX7_top_b36 at hf
  refine lv_iload hx hb (dc tbX7_top_0_k 22 rfl) (lv_at hl 4 rfl) ?_
  refine lv_aload_n hx hb (dc tbX7_top_0_k 23 rfl) rfl (lv_at hl 0 rfl) ?_
  refine gg7_0 hx hb hts hown hK hI hk0.1 q_t7_76 (dc tbX7_top_0_k 24 rfl) ?_
  refine lv_iconst (v := 1) hx hb (dc tbX7_top_0_k 25 rfl) ic_1 ?_
  obtain ⟨h15, hf⟩ := chk_s hf
  refine g_iald hx hb hK hI hk0.2.1 (okb_in h15) (dc tbX7_top_0_k 26 rfl) ?_
  refine lv_icmp_ge (tgt := 80) hx hb (dc tbX7_top_0_k 27 rfl) rfl (fun c16 => ?_) (fun c16 => ?_)
  · have hf := ite_t c16 hf
    refine lv_iload_n hx hb (dc tbX7_top_1_k 5 rfl) rfl (lv_at hl 3 rfl) ?_
    cases hf
    exact g_iret hx hb hr hlk hI (dc tbX7_top_1_k 6 rfl)
  · have hf := ite_f c16 hf
    refine lv_aload_n hx hb (dc tbX7_top_0_k 28 rfl) rfl (lv_at hl 0 rfl) ?_
    refine lv_iload hx hb (dc tbX7_top_0_k 29 rfl) (lv_at hl 4 rfl) ?_
    refine lv_iload_n hx hb (dc tbX7_top_0_k 30 rfl) rfl (lv_at hl 1 rfl) ?_
    refine lv_iload_n hx hb (dc tbX7_top_0_k 31 rfl) rfl (lv_at hl 2 rfl) ?_
    obtain ⟨r18, q17, hf⟩ := cap_s hf
    refine g_callVi hx hb hml hown hts hK hap hsx hI (tX7_isClamped l hk0 q17 H.size) cv_X7_isClamped q_t9_13 rfl rfl ⟨Nat.le_of_ble_eq_true rfl, Nat.le_of_ble_eq_true rfl⟩ hk0.1 (by simp) rfl rfl rfl hl.1 rfl (Nat.le_of_ble_eq_true rfl) (dc tbX7_top_0_k 32 rfl) ⟨Nat.le_of_ble_eq_true rfl, Nat.le_of_ble_eq_true rfl⟩ (fun H locs hI => ?_)
    refine lv_if_eq (tgt := 62) hx hb (dc tbX7_top_0_k 33 rfl) rfl (fun c20 => ?_) (fun c20 => ?_)
    · have hf := ite_t c20 hf
      refine lv_iload_n hx hb (dc tbX7_top_0_k 36 rfl) rfl (lv_at hl 3 rfl) ?_
      refine lv_aload_n hx hb (dc tbX7_top_0_k 37 rfl) rfl (lv_at hl 0 rfl) ?_
      refine gg7_20 hx hb hts hown hK hI hk0.1 q_t7_96 (dc tbX7_top_0_k 38 rfl) ?_
      refine lv_iload hx hb (dc tbX7_top_0_k 39 rfl) (lv_at hl 4 rfl) ?_
      obtain ⟨h21, hf⟩ := chk_s hf
      refine g_iald hx hb hK hI hk0.2.2.2.2.2.2.2.2.2.1 (okb_in h21) (dc tbX7_top_1_k 0 rfl) ?_
      refine va_mmax hx hb (hml.trans hl.1.symm) hown (hts _ q_t8_166) (hts _ q_t2_203) (hts _ q_t1_22) (hts _ q_t2_204) (Nat.le_of_ble_eq_true rfl) (Nat.le_of_ble_eq_true rfl) (Nat.le_of_ble_eq_true rfl) (Nat.le_of_ble_eq_true rfl) (dc tbX7_top_1_k 1 rfl) ?_
      refine lv_et (show (if _ then _ else _) = (imax x3 (rd M (k0 + 9) (x4).toNatClampNeg)) from rfl) ?_
      exact tX7_top_b73 C hk0 hih36 x1 x2 x4 (imax x3 (rd M (k0 + 9) (x4).toNatClampNeg)) M hf _ _ _ hI (lv_sub hl [0, 1, 2, 4] rfl)
    · have hf := ite_f c20 hf
      refine lv_iload_n hx hb (dc tbX7_top_0_k 34 rfl) rfl (lv_at hl 3 rfl) ?_
      refine lv_goto (tgt := 73) hx hb (dc tbX7_top_0_k 35 rfl) rfl ?_
      exact tX7_top_b73 C hk0 hih36 x1 x2 x4 x3 M hf _ _ _ hI (lv_sub hl [0, 1, 2, 4] rfl)
def mX7_top_l36 (k0 : Nat) : Nat → Int32 → Int32 → Int32 → Int32 → Mem → Option (Mem × Int32)
  | 0 => fun _ _ _ _ _ => none
  | n + 1 => mX7_top_b36 k0 (mX7_top_l36 k0 n)
theorem tX7_top_l36 {p : Program} {l : Launch} {e : Env} {s : State} {m : MethodId} {args : Array Value} {below : List Frame} {meth : Method} {c : Code} {G : GT} {kd : Nat → Nat × Nat} {ad : Nat → Nat} (C : Cx p s m args meth c cX7_top 5 (some .int) RX7 G kd ad) {k0 : Nat} (hk0 : kModel kd k0) {MO : Mem} {vo : Int32}   : ∀ (fuel : Nat) (x1 : Int32) (x2 : Int32) (x3 : Int32) (x4 : Int32) (M : Mem), mX7_top_l36 k0 fuel x1 x2 x3 x4 M = some (MO, vo) → At p l e (rmO 4 0 0) s m args below meth c 0 0 (MQ below (Qg G kd ad s.heap.size MO (some (.int vo))) args s 0 0 (AS kd ad s.heap.size)) G kd ad 5 36 [(0, .ref (ad k0)), (1, .int x1), (2, .int x2), (3, .int x3), (4, .int x4)] [] M := by
  intro fuel
  induction fuel with
  | zero => intro x1 x2 x3 x4 M hf; cases hf
  | succ n IH => exact tX7_top_b36 C hk0 IH
def mX7_top (k0 : Nat) (x1 : Int32) (x2 : Int32) (M : Mem) : Option (Mem × Int32) := cap (mX7_isBend k0 x1 M) (fun r2 => cap (mX7_isSide x2 M) (fun r5 => cal (mX7_good_ k0 r2 r5 M) (fun M9 r8 => ite2 (r8 = 0) (some (M9, (0 : Int32))) (chk (okb (52 : Int32) 86) (cal (mX7_laySheet k0 x1 x2 (rd M9 (k0 + 1) ((52 : Int32)).toNatClampNeg) M9) (fun M14 _ => mX7_top_l36 k0 5000 x1 x2 (0 : Int32) (0 : Int32) M14))))))
set_option maxHeartbeats 4000000 in
set_option maxRecDepth 100000 in
theorem tX7_top (l : Launch) {G : GT} {kd : Nat → Nat × Nat} {ad : Nat → Nat} {k0 : Nat} (hk0 : kModel kd k0) {x1 : Int32} {x2 : Int32} {M : Mem} {MO : Mem} {vo : Int32} (hf : mX7_top k0 x1 x2 M = some (MO, vo)) (n : Nat) : Met l yX7_top (Cond.code yX7_top cX7_top 5 (some .int) :: WA) (rmO 4 0 0) (Pg G kd ad n [.ref (ad k0), .int x1, .int x2] M) (Qg G kd ad n MO (some (.int vo))) 0 0 (AS kd ad n) := by
  refine g_body (own := RX7) (by decide) rfl ?_ (Nat.le_of_ble_eq_true rfl)
  intro p e s m args below meth c C _ H locs ls hI hl
  obtain ⟨hx, hb, hml, hr, hown, hts, hlk, hK, hap, hsx⟩ := id C
  have hl : lv_has ls 5 [(0, .ref (ad k0)), (1, .int x1), (2, .int x2)] := hl
  unfold mX7_top at hf
  refine lv_aload_n hx hb (dc tbX7_top_0_k 0 rfl) rfl (lv_at hl 0 rfl) ?_
  refine lv_aload_n hx hb (dc tbX7_top_0_k 1 rfl) rfl (lv_at hl 0 rfl) ?_
  refine lv_iload_n hx hb (dc tbX7_top_0_k 2 rfl) rfl (lv_at hl 1 rfl) ?_
  obtain ⟨r2, q1, hf⟩ := cap_s hf
  refine g_callVi hx hb hml hown hts hK hap hsx hI (tX7_isBend l hk0 q1 H.size) cv_X7_isBend q_t8_64 rfl rfl ⟨Nat.le_of_ble_eq_true rfl, Nat.le_of_ble_eq_true rfl⟩ hk0.1 (by simp) rfl rfl rfl hl.1 rfl (Nat.le_of_ble_eq_true rfl) (dc tbX7_top_0_k 3 rfl) ⟨Nat.le_of_ble_eq_true rfl, Nat.le_of_ble_eq_true rfl⟩ (fun H locs hI => ?_)
  refine lv_iload_n hx hb (dc tbX7_top_0_k 4 rfl) rfl (lv_at hl 2 rfl) ?_
  obtain ⟨r5, q4, hf⟩ := cap_s hf
  refine g_callSi hx hb hml hown hts hK hap hsx hI (tX7_isSide l  q4 H.size) cs_X7_isSide q_t8_219 rfl rfl ⟨Nat.le_of_ble_eq_true rfl, Nat.le_of_ble_eq_true rfl⟩ rfl hl.1 rfl (Nat.le_of_ble_eq_true rfl) (dc tbX7_top_0_k 5 rfl) ⟨Nat.le_of_ble_eq_true rfl, Nat.le_of_ble_eq_true rfl⟩ (fun H locs hI => ?_)
  obtain ⟨M9, r8, q7, hf⟩ := cal_s hf
  refine g_callVi hx hb hml hown hts hK hap hsx hI (tX7_good_ l hk0 q7 H.size) cv_X7_good_ q_t8_186 rfl rfl ⟨Nat.le_of_ble_eq_true rfl, Nat.le_of_ble_eq_true rfl⟩ hk0.1 (by simp) rfl rfl rfl hl.1 rfl (Nat.le_of_ble_eq_true rfl) (dc tbX7_top_0_k 6 rfl) ⟨Nat.le_of_ble_eq_true rfl, Nat.le_of_ble_eq_true rfl⟩ (fun H locs hI => ?_)
  refine lv_if_ne (tgt := 18) hx hb (dc tbX7_top_0_k 7 rfl) rfl (fun c10 => ?_) (fun c10 => ?_)
  · have hf := ite_f c10 hf
    refine lv_aload_n hx hb (dc tbX7_top_0_k 10 rfl) rfl (lv_at hl 0 rfl) ?_
    refine lv_iload_n hx hb (dc tbX7_top_0_k 11 rfl) rfl (lv_at hl 1 rfl) ?_
    refine lv_iload_n hx hb (dc tbX7_top_0_k 12 rfl) rfl (lv_at hl 2 rfl) ?_
    refine lv_aload_n hx hb (dc tbX7_top_0_k 13 rfl) rfl (lv_at hl 0 rfl) ?_
    refine gg7_0 hx hb hts hown hK hI hk0.1 q_t7_76 (dc tbX7_top_0_k 14 rfl) ?_
    refine lv_bipush (v := 52) hx hb (dc tbX7_top_0_k 15 rfl) bp_52 ?_
    obtain ⟨h11, hf⟩ := chk_s hf
    refine g_iald hx hb hK hI hk0.2.1 (okb_in h11) (dc tbX7_top_0_k 16 rfl) ?_
    obtain ⟨M14, r13, q12, hf⟩ := cal_s hf
    refine g_callVv hx hb hml hown hts hK hap hsx hI (tX7_laySheet l hk0 q12 H.size) cv_X7_laySheet q_t8_237 rfl rfl ⟨Nat.le_of_ble_eq_true rfl, Nat.le_of_ble_eq_true rfl⟩ hk0.1 (by simp) rfl rfl rfl hl.1 rfl (Nat.le_of_ble_eq_true rfl) (dc tbX7_top_0_k 17 rfl) ⟨Nat.le_of_ble_eq_true rfl, Nat.le_of_ble_eq_true rfl⟩ (fun H locs hI => ?_)
    refine lv_iconst (v := 0) hx hb (dc tbX7_top_0_k 18 rfl) ic_0 ?_
    refine lv_istore_n (lv' := [(3, .int (0 : Int32)), (0, .ref (ad k0)), (1, .int x1), (2, .int x2)]) hx hb (dc tbX7_top_0_k 19 rfl) rfl hl (by decide) rfl (fun ls hl => ?_)
    refine lv_iconst (v := 0) hx hb (dc tbX7_top_0_k 20 rfl) ic_0 ?_
    refine lv_istore (lv' := [(4, .int (0 : Int32)), (3, .int (0 : Int32)), (0, .ref (ad k0)), (1, .int x1), (2, .int x2)]) hx hb (dc tbX7_top_0_k 21 rfl) hl (by decide) rfl (fun ls hl => ?_)
    exact tX7_top_l36 C hk0 5000 x1 x2 (0 : Int32) (0 : Int32) M14 hf _ _ _ hI (lv_sub hl [2, 3, 4, 1, 0] rfl)
  · have hf := ite_t c10 hf
    refine lv_iconst (v := 0) hx hb (dc tbX7_top_0_k 8 rfl) ic_0 ?_
    cases hf
    exact g_iret hx hb hr hlk hI (dc tbX7_top_0_k 9 rfl)
theorem cv_X7_top : cvF RX7 yX7_top cX7_top 5 (some .int) 2 := ⟨q_t9_57, q_t9_58, q_t1_11, q_t9_59, by decide +kernel⟩
def mX7_hitting (k0 : Nat) (x1 : Int32) (x2 : Int32) (M : Mem) : Option (Mem × Int32) := cap (mX7_isBend k0 x1 M) (fun r2 => cap (mX7_isSide x2 M) (fun r5 => cal (mX7_good_ k0 r2 r5 M) (fun M9 r8 => ite2 (r8 = 0) (some (M9, (0 : Int32))) (chk (okb (52 : Int32) 86) (cal (mX7_laySheet k0 x1 x2 (rd M9 (k0 + 1) ((52 : Int32)).toNatClampNeg) M9) (fun M14 _ => cap (mX7_hittingLaid k0 x1 x2 (1 : Int32) (1 : Int32) M14) (fun r16 => some (M14, r16))))))))
set_option maxHeartbeats 4000000 in
set_option maxRecDepth 100000 in
theorem tX7_hitting (l : Launch) {G : GT} {kd : Nat → Nat × Nat} {ad : Nat → Nat} {k0 : Nat} (hk0 : kModel kd k0) {x1 : Int32} {x2 : Int32} {M : Mem} {MO : Mem} {vo : Int32} (hf : mX7_hitting k0 x1 x2 M = some (MO, vo)) (n : Nat) : Met l yX7_hitting (Cond.code yX7_hitting cX7_hitting 3 (some .int) :: WA) (rmO 5 0 0) (Pg G kd ad n [.ref (ad k0), .int x1, .int x2] M) (Qg G kd ad n MO (some (.int vo))) 0 0 (AS kd ad n) := by
  refine g_body (own := RX7) (by decide) rfl ?_ (Nat.le_of_ble_eq_true rfl)
  intro p e s m args below meth c C _ H locs ls hI hl
  obtain ⟨hx, hb, hml, hr, hown, hts, hlk, hK, hap, hsx⟩ := id C
  have hl : lv_has ls 3 [(0, .ref (ad k0)), (1, .int x1), (2, .int x2)] := hl
  unfold mX7_hitting at hf
  refine lv_aload_n hx hb (dc tbX7_hitting_k 0 rfl) rfl (lv_at hl 0 rfl) ?_
  refine lv_aload_n hx hb (dc tbX7_hitting_k 1 rfl) rfl (lv_at hl 0 rfl) ?_
  refine lv_iload_n hx hb (dc tbX7_hitting_k 2 rfl) rfl (lv_at hl 1 rfl) ?_
  obtain ⟨r2, q1, hf⟩ := cap_s hf
  refine g_callVi hx hb hml hown hts hK hap hsx hI (tX7_isBend l hk0 q1 H.size) cv_X7_isBend q_t8_64 rfl rfl ⟨Nat.le_of_ble_eq_true rfl, Nat.le_of_ble_eq_true rfl⟩ hk0.1 (by simp) rfl rfl rfl hl.1 rfl (Nat.le_of_ble_eq_true rfl) (dc tbX7_hitting_k 3 rfl) ⟨Nat.le_of_ble_eq_true rfl, Nat.le_of_ble_eq_true rfl⟩ (fun H locs hI => ?_)
  refine lv_iload_n hx hb (dc tbX7_hitting_k 4 rfl) rfl (lv_at hl 2 rfl) ?_
  obtain ⟨r5, q4, hf⟩ := cap_s hf
  refine g_callSi hx hb hml hown hts hK hap hsx hI (tX7_isSide l  q4 H.size) cs_X7_isSide q_t8_219 rfl rfl ⟨Nat.le_of_ble_eq_true rfl, Nat.le_of_ble_eq_true rfl⟩ rfl hl.1 rfl (Nat.le_of_ble_eq_true rfl) (dc tbX7_hitting_k 5 rfl) ⟨Nat.le_of_ble_eq_true rfl, Nat.le_of_ble_eq_true rfl⟩ (fun H locs hI => ?_)
  obtain ⟨M9, r8, q7, hf⟩ := cal_s hf
  refine g_callVi hx hb hml hown hts hK hap hsx hI (tX7_good_ l hk0 q7 H.size) cv_X7_good_ q_t8_186 rfl rfl ⟨Nat.le_of_ble_eq_true rfl, Nat.le_of_ble_eq_true rfl⟩ hk0.1 (by simp) rfl rfl rfl hl.1 rfl (Nat.le_of_ble_eq_true rfl) (dc tbX7_hitting_k 6 rfl) ⟨Nat.le_of_ble_eq_true rfl, Nat.le_of_ble_eq_true rfl⟩ (fun H locs hI => ?_)
  refine lv_if_ne (tgt := 18) hx hb (dc tbX7_hitting_k 7 rfl) rfl (fun c10 => ?_) (fun c10 => ?_)
  · have hf := ite_f c10 hf
    refine lv_aload_n hx hb (dc tbX7_hitting_k 10 rfl) rfl (lv_at hl 0 rfl) ?_
    refine lv_iload_n hx hb (dc tbX7_hitting_k 11 rfl) rfl (lv_at hl 1 rfl) ?_
    refine lv_iload_n hx hb (dc tbX7_hitting_k 12 rfl) rfl (lv_at hl 2 rfl) ?_
    refine lv_aload_n hx hb (dc tbX7_hitting_k 13 rfl) rfl (lv_at hl 0 rfl) ?_
    refine gg7_0 hx hb hts hown hK hI hk0.1 q_t7_76 (dc tbX7_hitting_k 14 rfl) ?_
    refine lv_bipush (v := 52) hx hb (dc tbX7_hitting_k 15 rfl) bp_52 ?_
    obtain ⟨h11, hf⟩ := chk_s hf
    refine g_iald hx hb hK hI hk0.2.1 (okb_in h11) (dc tbX7_hitting_k 16 rfl) ?_
    obtain ⟨M14, r13, q12, hf⟩ := cal_s hf
    refine g_callVv hx hb hml hown hts hK hap hsx hI (tX7_laySheet l hk0 q12 H.size) cv_X7_laySheet q_t8_237 rfl rfl ⟨Nat.le_of_ble_eq_true rfl, Nat.le_of_ble_eq_true rfl⟩ hk0.1 (by simp) rfl rfl rfl hl.1 rfl (Nat.le_of_ble_eq_true rfl) (dc tbX7_hitting_k 17 rfl) ⟨Nat.le_of_ble_eq_true rfl, Nat.le_of_ble_eq_true rfl⟩ (fun H locs hI => ?_)
    refine lv_aload_n hx hb (dc tbX7_hitting_k 18 rfl) rfl (lv_at hl 0 rfl) ?_
    refine lv_iload_n hx hb (dc tbX7_hitting_k 19 rfl) rfl (lv_at hl 1 rfl) ?_
    refine lv_iload_n hx hb (dc tbX7_hitting_k 20 rfl) rfl (lv_at hl 2 rfl) ?_
    refine lv_iconst (v := 1) hx hb (dc tbX7_hitting_k 21 rfl) ic_1 ?_
    refine lv_iconst (v := 1) hx hb (dc tbX7_hitting_k 22 rfl) ic_1 ?_
    obtain ⟨r16, q15, hf⟩ := cap_s hf
    refine g_callVi hx hb hml hown hts hK hap hsx hI (tX7_hittingLaid l hk0 q15 H.size) cv_X7_hittingLaid q_t9_17 rfl rfl ⟨Nat.le_of_ble_eq_true rfl, Nat.le_of_ble_eq_true rfl⟩ hk0.1 (by simp) rfl rfl rfl hl.1 rfl (Nat.le_of_ble_eq_true rfl) (dc tbX7_hitting_k 23 rfl) ⟨Nat.le_of_ble_eq_true rfl, Nat.le_of_ble_eq_true rfl⟩ (fun H locs hI => ?_)
    cases hf
    exact g_iret hx hb hr hlk hI (dc tbX7_hitting_k 24 rfl)
  · have hf := ite_t c10 hf
    refine lv_iconst (v := 0) hx hb (dc tbX7_hitting_k 8 rfl) ic_0 ?_
    cases hf
    exact g_iret hx hb hr hlk hI (dc tbX7_hitting_k 9 rfl)
theorem cv_X7_hitting : cvF RX7 yX7_hitting cX7_hitting 3 (some .int) 2 := ⟨q_t9_61, q_t9_62, q_t1_11, q_t9_63, by decide +kernel⟩
def mX7_refused_b61 (k0 : Nat) (ih22 : Int32 → Int32 → Int32 → Mem → Option (Mem × Int32)) (x1 : Int32) (x3 : Int32) (y0 : Int32) (y1 : Int32) (M : Mem) : Option (Mem × Int32) := bnd ((y0 + y1)) (fun x2_62 => bnd (x3 + (1 : Int32)) (fun x3_63 => ih22 x1 x2_62 x3_63 M))
set_option maxHeartbeats 4000000 in
set_option maxRecDepth 100000 in
theorem tX7_refused_b61 {p : Program} {l : Launch} {e : Env} {s : State} {m : MethodId} {args : Array Value} {below : List Frame} {meth : Method} {c : Code} {G : GT} {kd : Nat → Nat × Nat} {ad : Nat → Nat} (C : Cx p s m args meth c cX7_refused 4 (some .int) RX7 G kd ad) {k0 : Nat} (hk0 : kModel kd k0) {MO : Mem} {vo : Int32} {ih22 : Int32 → Int32 → Int32 → Mem → Option (Mem × Int32)} (hih22 : ∀ (x1 : Int32) (x2 : Int32) (x3 : Int32) (M : Mem), ih22 x1 x2 x3 M = some (MO, vo) → At p l e (rmO 6 0 0) s m args below meth c 0 0 (MQ below (Qg G kd ad s.heap.size MO (some (.int vo))) args s 0 0 (AS kd ad s.heap.size)) G kd ad 4 22 [(0, .ref (ad k0)), (1, .int x1), (2, .int x2), (3, .int x3)] [] M) : ∀ (x1 : Int32) (x3 : Int32) (y0 : Int32) (y1 : Int32) (M : Mem), mX7_refused_b61 k0 ih22 x1 x3 y0 y1 M = some (MO, vo) → At p l e (rmO 6 0 0) s m args below meth c 0 0 (MQ below (Qg G kd ad s.heap.size MO (some (.int vo))) args s 0 0 (AS kd ad s.heap.size)) G kd ad 4 61 [(0, .ref (ad k0)), (1, .int x1), (3, .int x3)] [.int y1, .int y0] M := by
  intro x1 x3 y0 y1 M hf H locs ls hI hl
  obtain ⟨hx, hb, hml, hr, hown, hts, hlk, hK, hap, hsx⟩ := id C
  unfold mX7_refused_b61 at hf
  refine lv_iadd hx hb (dc tbX7_refused_1_k 0 rfl) ?_
  obtain ⟨x2_62, e15, hf⟩ := bnd_s hf
  refine lv_ei e15 ?_
  refine lv_istore_n (lv' := [(2, .int x2_62), (0, .ref (ad k0)), (1, .int x1), (3, .int x3)]) hx hb (dc tbX7_refused_1_k 1 rfl) rfl hl (by decide) rfl (fun ls hl => ?_)
  obtain ⟨x3_63, e16, hf⟩ := bnd_s hf
  refine lv_iinc (v := x3_63) (lv' := [(3, .int x3_63), (2, .int x2_62), (0, .ref (ad k0)), (1, .int x1)]) hx hb (dc tbX7_refused_1_k 2 rfl) hl (k := 3) rfl (ii_e e16 ic_1) (by decide) rfl (fun ls hl => ?_)
  refine lv_goto (tgt := 22) hx hb (dc tbX7_refused_1_k 3 rfl) rfl ?_
  exact hih22 x1 x2_62 x3_63 M hf _ _ _ hI (lv_sub hl [2, 3, 1, 0] rfl)
def mX7_refused_b22 (k0 : Nat) (ih22 : Int32 → Int32 → Int32 → Mem → Option (Mem × Int32)) (x1 : Int32) (x2 : Int32) (x3 : Int32) (M : Mem) : Option (Mem × Int32) := chk (okb (0 : Int32) 86) (ite2 (((2 : Int32) * (rd M (k0 + 1) ((0 : Int32)).toNatClampNeg)) ≤ x3) (some (M, x2)) (chk (okb (52 : Int32) 86) (cal (mX7_reasonOf k0 (x3 / (2 : Int32)) (x3 - x3 / (2 : Int32) * (2 : Int32)) (rd M (k0 + 1) ((52 : Int32)).toNatClampNeg) M) (fun M13 r12 => ite2 (r12 = x1) (mX7_refused_b61 k0 ih22 x1 x3 x2 (1 : Int32) M13) (mX7_refused_b61 k0 ih22 x1 x3 x2 (0 : Int32) M13)))))
set_option maxHeartbeats 4000000 in
set_option maxRecDepth 100000 in
theorem tX7_refused_b22 {p : Program} {l : Launch} {e : Env} {s : State} {m : MethodId} {args : Array Value} {below : List Frame} {meth : Method} {c : Code} {G : GT} {kd : Nat → Nat × Nat} {ad : Nat → Nat} (C : Cx p s m args meth c cX7_refused 4 (some .int) RX7 G kd ad) {k0 : Nat} (hk0 : kModel kd k0) {MO : Mem} {vo : Int32} {ih22 : Int32 → Int32 → Int32 → Mem → Option (Mem × Int32)} (hih22 : ∀ (x1 : Int32) (x2 : Int32) (x3 : Int32) (M : Mem), ih22 x1 x2 x3 M = some (MO, vo) → At p l e (rmO 6 0 0) s m args below meth c 0 0 (MQ below (Qg G kd ad s.heap.size MO (some (.int vo))) args s 0 0 (AS kd ad s.heap.size)) G kd ad 4 22 [(0, .ref (ad k0)), (1, .int x1), (2, .int x2), (3, .int x3)] [] M) : ∀ (x1 : Int32) (x2 : Int32) (x3 : Int32) (M : Mem), mX7_refused_b22 k0 ih22 x1 x2 x3 M = some (MO, vo) → At p l e (rmO 6 0 0) s m args below meth c 0 0 (MQ below (Qg G kd ad s.heap.size MO (some (.int vo))) args s 0 0 (AS kd ad s.heap.size)) G kd ad 4 22 [(0, .ref (ad k0)), (1, .int x1), (2, .int x2), (3, .int x3)] [] M := by
  intro x1 x2 x3 M hf H locs ls hI hl
  obtain ⟨hx, hb, hml, hr, hown, hts, hlk, hK, hap, hsx⟩ := id C
  unfold mX7_refused_b22 at hf
  refine lv_iload_n hx hb (dc tbX7_refused_0_k 14 rfl) rfl (lv_at hl 3 rfl) ?_
  refine lv_iconst (v := 2) hx hb (dc tbX7_refused_0_k 15 rfl) ic_2 ?_
  refine lv_aload_n hx hb (dc tbX7_refused_0_k 16 rfl) rfl (lv_at hl 0 rfl) ?_
  refine gg7_0 hx hb hts hown hK hI hk0.1 q_t7_76 (dc tbX7_refused_0_k 17 rfl) ?_
  refine lv_iconst (v := 0) hx hb (dc tbX7_refused_0_k 18 rfl) ic_0 ?_
  obtain ⟨h8, hf⟩ := chk_s hf
  refine g_iald hx hb hK hI hk0.2.1 (okb_in h8) (dc tbX7_refused_0_k 19 rfl) ?_
  refine lv_imul hx hb (dc tbX7_refused_0_k 20 rfl) ?_
  refine lv_icmp_ge (tgt := 69) hx hb (dc tbX7_refused_0_k 21 rfl) rfl (fun c9 => ?_) (fun c9 => ?_)
  · have hf := ite_t c9 hf
    refine lv_iload_n hx hb (dc tbX7_refused_1_k 4 rfl) rfl (lv_at hl 2 rfl) ?_
    cases hf
    exact g_iret hx hb hr hlk hI (dc tbX7_refused_1_k 5 rfl)
  · have hf := ite_f c9 hf
    refine lv_iload_n hx hb (dc tbX7_refused_0_k 22 rfl) rfl (lv_at hl 2 rfl) ?_
    refine lv_aload_n hx hb (dc tbX7_refused_0_k 23 rfl) rfl (lv_at hl 0 rfl) ?_
    refine lv_iload_n hx hb (dc tbX7_refused_0_k 24 rfl) rfl (lv_at hl 3 rfl) ?_
    refine lv_iconst (v := 2) hx hb (dc tbX7_refused_0_k 25 rfl) ic_2 ?_
    refine lv_idiv hx hb (dc tbX7_refused_0_k 26 rfl) (by decide) ?_
    refine lv_iload_n hx hb (dc tbX7_refused_0_k 27 rfl) rfl (lv_at hl 3 rfl) ?_
    refine lv_iconst (v := 2) hx hb (dc tbX7_refused_0_k 28 rfl) ic_2 ?_
    refine lv_irem hx hb (dc tbX7_refused_0_k 29 rfl) (by decide) ?_
    refine lv_aload_n hx hb (dc tbX7_refused_0_k 30 rfl) rfl (lv_at hl 0 rfl) ?_
    refine gg7_0 hx hb hts hown hK hI hk0.1 q_t7_76 (dc tbX7_refused_0_k 31 rfl) ?_
    refine lv_bipush (v := 52) hx hb (dc tbX7_refused_0_k 32 rfl) bp_52 ?_
    obtain ⟨h10, hf⟩ := chk_s hf
    refine g_iald hx hb hK hI hk0.2.1 (okb_in h10) (dc tbX7_refused_0_k 33 rfl) ?_
    obtain ⟨M13, r12, q11, hf⟩ := cal_s hf
    refine g_callVi hx hb hml hown hts hK hap hsx hI (tX7_reasonOf l hk0 q11 H.size) cv_X7_reasonOf q_t8_222 rfl rfl ⟨Nat.le_of_ble_eq_true rfl, Nat.le_of_ble_eq_true rfl⟩ hk0.1 (by simp) rfl rfl rfl hl.1 rfl (Nat.le_of_ble_eq_true rfl) (dc tbX7_refused_0_k 34 rfl) ⟨Nat.le_of_ble_eq_true rfl, Nat.le_of_ble_eq_true rfl⟩ (fun H locs hI => ?_)
    refine lv_iload_n hx hb (dc tbX7_refused_0_k 35 rfl) rfl (lv_at hl 1 rfl) ?_
    refine lv_icmp_ne (tgt := 60) hx hb (dc tbX7_refused_0_k 36 rfl) rfl (fun c14 => ?_) (fun c14 => ?_)
    · have hf := ite_f c14 hf
      refine lv_iconst (v := 0) hx hb (dc tbX7_refused_0_k 39 rfl) ic_0 ?_
      exact tX7_refused_b61 C hk0 hih22 x1 x3 x2 (0 : Int32) M13 hf _ _ _ hI (lv_sub hl [0, 1, 3] rfl)
    · have hf := ite_t c14 hf
      refine lv_iconst (v := 1) hx hb (dc tbX7_refused_0_k 37 rfl) ic_1 ?_
      refine lv_goto (tgt := 61) hx hb (dc tbX7_refused_0_k 38 rfl) rfl ?_
      exact tX7_refused_b61 C hk0 hih22 x1 x3 x2 (1 : Int32) M13 hf _ _ _ hI (lv_sub hl [0, 1, 3] rfl)
def mX7_refused_l22 (k0 : Nat) : Nat → Int32 → Int32 → Int32 → Mem → Option (Mem × Int32)
  | 0 => fun _ _ _ _ => none
  | n + 1 => mX7_refused_b22 k0 (mX7_refused_l22 k0 n)
theorem tX7_refused_l22 {p : Program} {l : Launch} {e : Env} {s : State} {m : MethodId} {args : Array Value} {below : List Frame} {meth : Method} {c : Code} {G : GT} {kd : Nat → Nat × Nat} {ad : Nat → Nat} (C : Cx p s m args meth c cX7_refused 4 (some .int) RX7 G kd ad) {k0 : Nat} (hk0 : kModel kd k0) {MO : Mem} {vo : Int32}   : ∀ (fuel : Nat) (x1 : Int32) (x2 : Int32) (x3 : Int32) (M : Mem), mX7_refused_l22 k0 fuel x1 x2 x3 M = some (MO, vo) → At p l e (rmO 6 0 0) s m args below meth c 0 0 (MQ below (Qg G kd ad s.heap.size MO (some (.int vo))) args s 0 0 (AS kd ad s.heap.size)) G kd ad 4 22 [(0, .ref (ad k0)), (1, .int x1), (2, .int x2), (3, .int x3)] [] M := by
  intro fuel
  induction fuel with
  | zero => intro x1 x2 x3 M hf; cases hf
  | succ n IH => exact tX7_refused_b22 C hk0 IH
def mX7_refused (k0 : Nat) (x1 : Int32) (M : Mem) : Option (Mem × Int32) := cap (mX7_between (x1).toInt64 (1 : Int64) (6 : Int64) M) (fun r2 => cal (mX7_good k0 r2 M) (fun M6 r5 => ite2 (r5 = 0) (some (M6, (0 : Int32))) (mX7_refused_l22 k0 5000 x1 (0 : Int32) (0 : Int32) M6)))
set_option maxHeartbeats 4000000 in
set_option maxRecDepth 100000 in
theorem tX7_refused (l : Launch) {G : GT} {kd : Nat → Nat × Nat} {ad : Nat → Nat} {k0 : Nat} (hk0 : kModel kd k0) {x1 : Int32} {M : Mem} {MO : Mem} {vo : Int32} (hf : mX7_refused k0 x1 M = some (MO, vo)) (n : Nat) : Met l yX7_refused (Cond.code yX7_refused cX7_refused 4 (some .int) :: WA) (rmO 6 0 0) (Pg G kd ad n [.ref (ad k0), .int x1] M) (Qg G kd ad n MO (some (.int vo))) 0 0 (AS kd ad n) := by
  refine g_body (own := RX7) (by decide) rfl ?_ (Nat.le_of_ble_eq_true rfl)
  intro p e s m args below meth c C _ H locs ls hI hl
  obtain ⟨hx, hb, hml, hr, hown, hts, hlk, hK, hap, hsx⟩ := id C
  have hl : lv_has ls 4 [(0, .ref (ad k0)), (1, .int x1)] := hl
  unfold mX7_refused at hf
  refine lv_aload_n hx hb (dc tbX7_refused_0_k 0 rfl) rfl (lv_at hl 0 rfl) ?_
  refine lv_iload_n hx hb (dc tbX7_refused_0_k 1 rfl) rfl (lv_at hl 1 rfl) ?_
  refine lv_i2l hx hb (dc tbX7_refused_0_k 2 rfl) rfl ?_
  refine lv_lconst (v := 1) hx hb (dc tbX7_refused_0_k 3 rfl) (by decide) ?_
  refine lv_ldc2 hx hb hown (hts _ q_t9_68) (dc tbX7_refused_0_k 4 rfl) ?_
  obtain ⟨r2, q1, hf⟩ := cap_s hf
  refine g_callSi hx hb hml hown hts hK hap hsx hI (tX7_between l  q1 H.size) cs_X7_between q_t7_190 rfl rfl ⟨Nat.le_of_ble_eq_true rfl, Nat.le_of_ble_eq_true rfl⟩ rfl hl.1 rfl (Nat.le_of_ble_eq_true rfl) (dc tbX7_refused_0_k 5 rfl) ⟨Nat.le_of_ble_eq_true rfl, Nat.le_of_ble_eq_true rfl⟩ (fun H locs hI => ?_)
  obtain ⟨M6, r5, q4, hf⟩ := cal_s hf
  refine g_callVi hx hb hml hown hts hK hap hsx hI (tX7_good l hk0 q4 H.size) cv_X7_good q_t8_56 rfl rfl ⟨Nat.le_of_ble_eq_true rfl, Nat.le_of_ble_eq_true rfl⟩ hk0.1 (by simp) rfl rfl rfl hl.1 rfl (Nat.le_of_ble_eq_true rfl) (dc tbX7_refused_0_k 6 rfl) ⟨Nat.le_of_ble_eq_true rfl, Nat.le_of_ble_eq_true rfl⟩ (fun H locs hI => ?_)
  refine lv_if_ne (tgt := 18) hx hb (dc tbX7_refused_0_k 7 rfl) rfl (fun c7 => ?_) (fun c7 => ?_)
  · have hf := ite_f c7 hf
    refine lv_iconst (v := 0) hx hb (dc tbX7_refused_0_k 10 rfl) ic_0 ?_
    refine lv_istore_n (lv' := [(2, .int (0 : Int32)), (0, .ref (ad k0)), (1, .int x1)]) hx hb (dc tbX7_refused_0_k 11 rfl) rfl hl (by decide) rfl (fun ls hl => ?_)
    refine lv_iconst (v := 0) hx hb (dc tbX7_refused_0_k 12 rfl) ic_0 ?_
    refine lv_istore_n (lv' := [(3, .int (0 : Int32)), (2, .int (0 : Int32)), (0, .ref (ad k0)), (1, .int x1)]) hx hb (dc tbX7_refused_0_k 13 rfl) rfl hl (by decide) rfl (fun ls hl => ?_)
    exact tX7_refused_l22 C hk0 5000 x1 (0 : Int32) (0 : Int32) M6 hf _ _ _ hI (lv_sub hl [2, 3, 1, 0] rfl)
  · have hf := ite_t c7 hf
    refine lv_iconst (v := 0) hx hb (dc tbX7_refused_0_k 8 rfl) ic_0 ?_
    cases hf
    exact g_iret hx hb hr hlk hI (dc tbX7_refused_0_k 9 rfl)
theorem cv_X7_refused : cvF RX7 yX7_refused cX7_refused 4 (some .int) 1 := ⟨q_t9_65, q_t9_66, q_t1_11, q_t9_67, by decide +kernel⟩
def mX7_possible_b49 (k0 : Nat) (ih9 : Int32 → Int32 → Mem → Option (Mem × Int32)) (x2 : Int32) (y0 : Int32) (y1 : Int32) (M : Mem) : Option (Mem × Int32) := bnd ((y0 ||| y1)) (fun x1_50 => bnd (x2 + (1 : Int32)) (fun x2_51 => ih9 x1_50 x2_51 M))
set_option maxHeartbeats 4000000 in
set_option maxRecDepth 100000 in
theorem tX7_possible_b49 {p : Program} {l : Launch} {e : Env} {s : State} {m : MethodId} {args : Array Value} {below : List Frame} {meth : Method} {c : Code} {G : GT} {kd : Nat → Nat × Nat} {ad : Nat → Nat} (C : Cx p s m args meth c cX7_possible 3 (some .int) RX7 G kd ad) {k0 : Nat} (hk0 : kModel kd k0) {MO : Mem} {vo : Int32} {ih9 : Int32 → Int32 → Mem → Option (Mem × Int32)} (hih9 : ∀ (x1 : Int32) (x2 : Int32) (M : Mem), ih9 x1 x2 M = some (MO, vo) → At p l e (rmO 6 0 0) s m args below meth c 0 0 (MQ below (Qg G kd ad s.heap.size MO (some (.int vo))) args s 0 0 (AS kd ad s.heap.size)) G kd ad 3 9 [(0, .ref (ad k0)), (1, .int x1), (2, .int x2)] [] M) : ∀ (x2 : Int32) (y0 : Int32) (y1 : Int32) (M : Mem), mX7_possible_b49 k0 ih9 x2 y0 y1 M = some (MO, vo) → At p l e (rmO 6 0 0) s m args below meth c 0 0 (MQ below (Qg G kd ad s.heap.size MO (some (.int vo))) args s 0 0 (AS kd ad s.heap.size)) G kd ad 3 49 [(0, .ref (ad k0)), (2, .int x2)] [.int y1, .int y0] M := by
  intro x2 y0 y1 M hf H locs ls hI hl
  obtain ⟨hx, hb, hml, hr, hown, hts, hlk, hK, hap, hsx⟩ := id C
  unfold mX7_possible_b49 at hf
  refine lv_ior hx hb (dc tbX7_possible_k 34 rfl) ?_
  obtain ⟨x1_50, e10, hf⟩ := bnd_s hf
  refine lv_ei e10 ?_
  refine lv_istore_n (lv' := [(1, .int x1_50), (0, .ref (ad k0)), (2, .int x2)]) hx hb (dc tbX7_possible_k 35 rfl) rfl hl (by decide) rfl (fun ls hl => ?_)
  obtain ⟨x2_51, e11, hf⟩ := bnd_s hf
  refine lv_iinc (v := x2_51) (lv' := [(2, .int x2_51), (1, .int x1_50), (0, .ref (ad k0))]) hx hb (dc tbX7_possible_k 36 rfl) hl (k := 2) rfl (ii_e e11 ic_1) (by decide) rfl (fun ls hl => ?_)
  refine lv_goto (tgt := 9) hx hb (dc tbX7_possible_k 37 rfl) rfl ?_
  exact hih9 x1_50 x2_51 M hf _ _ _ hI (lv_sub hl [2, 1, 0] rfl)
def mX7_possible_b9 (k0 : Nat) (ih9 : Int32 → Int32 → Mem → Option (Mem × Int32)) (x1 : Int32) (x2 : Int32) (M : Mem) : Option (Mem × Int32) := chk (okb (0 : Int32) 86) (ite2 (((2 : Int32) * (rd M (k0 + 1) ((0 : Int32)).toNatClampNeg)) ≤ x2) (some (M, x1)) (chk (okb (52 : Int32) 86) (cal (mX7_reasonOf k0 (x2 / (2 : Int32)) (x2 - x2 / (2 : Int32) * (2 : Int32)) (rd M (k0 + 1) ((52 : Int32)).toNatClampNeg) M) (fun M8 r7 => ite2 (r7 = 0) (mX7_possible_b49 k0 ih9 x2 x1 ((1 : Int32) <<< (x2 &&& 31)) M8) (mX7_possible_b49 k0 ih9 x2 x1 (0 : Int32) M8)))))
set_option maxHeartbeats 4000000 in
set_option maxRecDepth 100000 in
theorem tX7_possible_b9 {p : Program} {l : Launch} {e : Env} {s : State} {m : MethodId} {args : Array Value} {below : List Frame} {meth : Method} {c : Code} {G : GT} {kd : Nat → Nat × Nat} {ad : Nat → Nat} (C : Cx p s m args meth c cX7_possible 3 (some .int) RX7 G kd ad) {k0 : Nat} (hk0 : kModel kd k0) {MO : Mem} {vo : Int32} {ih9 : Int32 → Int32 → Mem → Option (Mem × Int32)} (hih9 : ∀ (x1 : Int32) (x2 : Int32) (M : Mem), ih9 x1 x2 M = some (MO, vo) → At p l e (rmO 6 0 0) s m args below meth c 0 0 (MQ below (Qg G kd ad s.heap.size MO (some (.int vo))) args s 0 0 (AS kd ad s.heap.size)) G kd ad 3 9 [(0, .ref (ad k0)), (1, .int x1), (2, .int x2)] [] M) : ∀ (x1 : Int32) (x2 : Int32) (M : Mem), mX7_possible_b9 k0 ih9 x1 x2 M = some (MO, vo) → At p l e (rmO 6 0 0) s m args below meth c 0 0 (MQ below (Qg G kd ad s.heap.size MO (some (.int vo))) args s 0 0 (AS kd ad s.heap.size)) G kd ad 3 9 [(0, .ref (ad k0)), (1, .int x1), (2, .int x2)] [] M := by
  intro x1 x2 M hf H locs ls hI hl
  obtain ⟨hx, hb, hml, hr, hown, hts, hlk, hK, hap, hsx⟩ := id C
  unfold mX7_possible_b9 at hf
  refine lv_iload_n hx hb (dc tbX7_possible_k 7 rfl) rfl (lv_at hl 2 rfl) ?_
  refine lv_iconst (v := 2) hx hb (dc tbX7_possible_k 8 rfl) ic_2 ?_
  refine lv_aload_n hx hb (dc tbX7_possible_k 9 rfl) rfl (lv_at hl 0 rfl) ?_
  refine gg7_0 hx hb hts hown hK hI hk0.1 q_t7_76 (dc tbX7_possible_k 10 rfl) ?_
  refine lv_iconst (v := 0) hx hb (dc tbX7_possible_k 11 rfl) ic_0 ?_
  obtain ⟨h3, hf⟩ := chk_s hf
  refine g_iald hx hb hK hI hk0.2.1 (okb_in h3) (dc tbX7_possible_k 12 rfl) ?_
  refine lv_imul hx hb (dc tbX7_possible_k 13 rfl) ?_
  refine lv_icmp_ge (tgt := 57) hx hb (dc tbX7_possible_k 14 rfl) rfl (fun c4 => ?_) (fun c4 => ?_)
  · have hf := ite_t c4 hf
    refine lv_iload_n hx hb (dc tbX7_possible_k 38 rfl) rfl (lv_at hl 1 rfl) ?_
    cases hf
    exact g_iret hx hb hr hlk hI (dc tbX7_possible_k 39 rfl)
  · have hf := ite_f c4 hf
    refine lv_iload_n hx hb (dc tbX7_possible_k 15 rfl) rfl (lv_at hl 1 rfl) ?_
    refine lv_aload_n hx hb (dc tbX7_possible_k 16 rfl) rfl (lv_at hl 0 rfl) ?_
    refine lv_iload_n hx hb (dc tbX7_possible_k 17 rfl) rfl (lv_at hl 2 rfl) ?_
    refine lv_iconst (v := 2) hx hb (dc tbX7_possible_k 18 rfl) ic_2 ?_
    refine lv_idiv hx hb (dc tbX7_possible_k 19 rfl) (by decide) ?_
    refine lv_iload_n hx hb (dc tbX7_possible_k 20 rfl) rfl (lv_at hl 2 rfl) ?_
    refine lv_iconst (v := 2) hx hb (dc tbX7_possible_k 21 rfl) ic_2 ?_
    refine lv_irem hx hb (dc tbX7_possible_k 22 rfl) (by decide) ?_
    refine lv_aload_n hx hb (dc tbX7_possible_k 23 rfl) rfl (lv_at hl 0 rfl) ?_
    refine gg7_0 hx hb hts hown hK hI hk0.1 q_t7_76 (dc tbX7_possible_k 24 rfl) ?_
    refine lv_bipush (v := 52) hx hb (dc tbX7_possible_k 25 rfl) bp_52 ?_
    obtain ⟨h5, hf⟩ := chk_s hf
    refine g_iald hx hb hK hI hk0.2.1 (okb_in h5) (dc tbX7_possible_k 26 rfl) ?_
    obtain ⟨M8, r7, q6, hf⟩ := cal_s hf
    refine g_callVi hx hb hml hown hts hK hap hsx hI (tX7_reasonOf l hk0 q6 H.size) cv_X7_reasonOf q_t8_222 rfl rfl ⟨Nat.le_of_ble_eq_true rfl, Nat.le_of_ble_eq_true rfl⟩ hk0.1 (by simp) rfl rfl rfl hl.1 rfl (Nat.le_of_ble_eq_true rfl) (dc tbX7_possible_k 27 rfl) ⟨Nat.le_of_ble_eq_true rfl, Nat.le_of_ble_eq_true rfl⟩ (fun H locs hI => ?_)
    refine lv_if_ne (tgt := 48) hx hb (dc tbX7_possible_k 28 rfl) rfl (fun c9 => ?_) (fun c9 => ?_)
    · have hf := ite_f c9 hf
      refine lv_iconst (v := 0) hx hb (dc tbX7_possible_k 33 rfl) ic_0 ?_
      exact tX7_possible_b49 C hk0 hih9 x2 x1 (0 : Int32) M8 hf _ _ _ hI (lv_sub hl [0, 2] rfl)
    · have hf := ite_t c9 hf
      refine lv_iconst (v := 1) hx hb (dc tbX7_possible_k 29 rfl) ic_1 ?_
      refine lv_iload_n hx hb (dc tbX7_possible_k 30 rfl) rfl (lv_at hl 2 rfl) ?_
      refine lv_ishl hx hb (dc tbX7_possible_k 31 rfl) ?_
      refine lv_goto (tgt := 49) hx hb (dc tbX7_possible_k 32 rfl) rfl ?_
      exact tX7_possible_b49 C hk0 hih9 x2 x1 ((1 : Int32) <<< (x2 &&& 31)) M8 hf _ _ _ hI (lv_sub hl [0, 2] rfl)
def mX7_possible_l9 (k0 : Nat) : Nat → Int32 → Int32 → Mem → Option (Mem × Int32)
  | 0 => fun _ _ _ => none
  | n + 1 => mX7_possible_b9 k0 (mX7_possible_l9 k0 n)
theorem tX7_possible_l9 {p : Program} {l : Launch} {e : Env} {s : State} {m : MethodId} {args : Array Value} {below : List Frame} {meth : Method} {c : Code} {G : GT} {kd : Nat → Nat × Nat} {ad : Nat → Nat} (C : Cx p s m args meth c cX7_possible 3 (some .int) RX7 G kd ad) {k0 : Nat} (hk0 : kModel kd k0) {MO : Mem} {vo : Int32}   : ∀ (fuel : Nat) (x1 : Int32) (x2 : Int32) (M : Mem), mX7_possible_l9 k0 fuel x1 x2 M = some (MO, vo) → At p l e (rmO 6 0 0) s m args below meth c 0 0 (MQ below (Qg G kd ad s.heap.size MO (some (.int vo))) args s 0 0 (AS kd ad s.heap.size)) G kd ad 3 9 [(0, .ref (ad k0)), (1, .int x1), (2, .int x2)] [] M := by
  intro fuel
  induction fuel with
  | zero => intro x1 x2 M hf; cases hf
  | succ n IH => exact tX7_possible_b9 C hk0 IH
def mX7_possible (k0 : Nat) (M : Mem) : Option (Mem × Int32) := bnd (wr M k0 5 (0 : Int32)) (fun M1 => mX7_possible_l9 k0 5000 (0 : Int32) (0 : Int32) M1)
set_option maxHeartbeats 4000000 in
set_option maxRecDepth 100000 in
theorem tX7_possible (l : Launch) {G : GT} {kd : Nat → Nat × Nat} {ad : Nat → Nat} {k0 : Nat} (hk0 : kModel kd k0) {M : Mem} {MO : Mem} {vo : Int32} (hf : mX7_possible k0 M = some (MO, vo)) (n : Nat) : Met l yX7_possible (Cond.code yX7_possible cX7_possible 3 (some .int) :: WA) (rmO 6 0 0) (Pg G kd ad n [.ref (ad k0)] M) (Qg G kd ad n MO (some (.int vo))) 0 0 (AS kd ad n) := by
  refine g_body (own := RX7) (by decide) rfl ?_ (Nat.le_of_ble_eq_true rfl)
  intro p e s m args below meth c C _ H locs ls hI hl
  obtain ⟨hx, hb, hml, hr, hown, hts, hlk, hK, hap, hsx⟩ := id C
  have hl : lv_has ls 3 [(0, .ref (ad k0))] := hl
  unfold mX7_possible at hf
  refine lv_aload_n hx hb (dc tbX7_possible_k 0 rfl) rfl (lv_at hl 0 rfl) ?_
  refine lv_iconst (v := 0) hx hb (dc tbX7_possible_k 1 rfl) ic_0 ?_
  obtain ⟨M1, e2, hf⟩ := bnd_s hf
  refine gp7_5 hx hb hts hown hK hap hI hk0.1 q_t7_81 (dc tbX7_possible_k 2 rfl) e2 (fun H locs hI => ?_)
  refine lv_iconst (v := 0) hx hb (dc tbX7_possible_k 3 rfl) ic_0 ?_
  refine lv_istore_n (lv' := [(1, .int (0 : Int32)), (0, .ref (ad k0))]) hx hb (dc tbX7_possible_k 4 rfl) rfl hl (by decide) rfl (fun ls hl => ?_)
  refine lv_iconst (v := 0) hx hb (dc tbX7_possible_k 5 rfl) ic_0 ?_
  refine lv_istore_n (lv' := [(2, .int (0 : Int32)), (1, .int (0 : Int32)), (0, .ref (ad k0))]) hx hb (dc tbX7_possible_k 6 rfl) rfl hl (by decide) rfl (fun ls hl => ?_)
  exact tX7_possible_l9 C hk0 5000 (0 : Int32) (0 : Int32) M1 hf _ _ _ hI (lv_sub hl [2, 1, 0] rfl)
theorem cv_X7_possible : cvF RX7 yX7_possible cX7_possible 3 (some .int) 0 := ⟨q_t9_70, q_t9_71, q_t1_11, q_t9_72, by decide +kernel⟩
def mX7_stuck_b71 (k0 : Nat) (ih9 : Int32 → Int32 → Mem → Option (Mem × Int32)) (x2 : Int32) (y0 : Int32) (y1 : Int32) (M : Mem) : Option (Mem × Int32) := bnd ((y0 + y1)) (fun x1_72 => bnd (x2 + (1 : Int32)) (fun x2_73 => ih9 x1_72 x2_73 M))
set_option maxHeartbeats 4000000 in
set_option maxRecDepth 100000 in
theorem tX7_stuck_b71 {p : Program} {l : Launch} {e : Env} {s : State} {m : MethodId} {args : Array Value} {below : List Frame} {meth : Method} {c : Code} {G : GT} {kd : Nat → Nat × Nat} {ad : Nat → Nat} (C : Cx p s m args meth c cX7_stuck 3 (some .int) RX7 G kd ad) {k0 : Nat} (hk0 : kModel kd k0) {MO : Mem} {vo : Int32} {ih9 : Int32 → Int32 → Mem → Option (Mem × Int32)} (hih9 : ∀ (x1 : Int32) (x2 : Int32) (M : Mem), ih9 x1 x2 M = some (MO, vo) → At p l e (rmO 6 0 0) s m args below meth c 0 0 (MQ below (Qg G kd ad s.heap.size MO (some (.int vo))) args s 0 0 (AS kd ad s.heap.size)) G kd ad 3 9 [(0, .ref (ad k0)), (1, .int x1), (2, .int x2)] [] M) : ∀ (x2 : Int32) (y0 : Int32) (y1 : Int32) (M : Mem), mX7_stuck_b71 k0 ih9 x2 y0 y1 M = some (MO, vo) → At p l e (rmO 6 0 0) s m args below meth c 0 0 (MQ below (Qg G kd ad s.heap.size MO (some (.int vo))) args s 0 0 (AS kd ad s.heap.size)) G kd ad 3 71 [(0, .ref (ad k0)), (2, .int x2)] [.int y1, .int y0] M := by
  intro x2 y0 y1 M hf H locs ls hI hl
  obtain ⟨hx, hb, hml, hr, hown, hts, hlk, hK, hap, hsx⟩ := id C
  unfold mX7_stuck_b71 at hf
  refine lv_iadd hx hb (dc tbX7_stuck_1_k 2 rfl) ?_
  obtain ⟨x1_72, e10, hf⟩ := bnd_s hf
  refine lv_ei e10 ?_
  refine lv_istore_n (lv' := [(1, .int x1_72), (0, .ref (ad k0)), (2, .int x2)]) hx hb (dc tbX7_stuck_1_k 3 rfl) rfl hl (by decide) rfl (fun ls hl => ?_)
  obtain ⟨x2_73, e11, hf⟩ := bnd_s hf
  refine lv_iinc (v := x2_73) (lv' := [(2, .int x2_73), (1, .int x1_72), (0, .ref (ad k0))]) hx hb (dc tbX7_stuck_1_k 4 rfl) hl (k := 2) rfl (ii_e e11 ic_1) (by decide) rfl (fun ls hl => ?_)
  refine lv_goto (tgt := 9) hx hb (dc tbX7_stuck_1_k 5 rfl) rfl ?_
  exact hih9 x1_72 x2_73 M hf _ _ _ hI (lv_sub hl [2, 1, 0] rfl)
def mX7_stuck_b70 (k0 : Nat) (ih9 : Int32 → Int32 → Mem → Option (Mem × Int32)) (x2 : Int32) (y0 : Int32) (M : Mem) : Option (Mem × Int32) := mX7_stuck_b71 k0 ih9 x2 y0 (0 : Int32) M
set_option maxHeartbeats 4000000 in
set_option maxRecDepth 100000 in
theorem tX7_stuck_b70 {p : Program} {l : Launch} {e : Env} {s : State} {m : MethodId} {args : Array Value} {below : List Frame} {meth : Method} {c : Code} {G : GT} {kd : Nat → Nat × Nat} {ad : Nat → Nat} (C : Cx p s m args meth c cX7_stuck 3 (some .int) RX7 G kd ad) {k0 : Nat} (hk0 : kModel kd k0) {MO : Mem} {vo : Int32} {ih9 : Int32 → Int32 → Mem → Option (Mem × Int32)} (hih9 : ∀ (x1 : Int32) (x2 : Int32) (M : Mem), ih9 x1 x2 M = some (MO, vo) → At p l e (rmO 6 0 0) s m args below meth c 0 0 (MQ below (Qg G kd ad s.heap.size MO (some (.int vo))) args s 0 0 (AS kd ad s.heap.size)) G kd ad 3 9 [(0, .ref (ad k0)), (1, .int x1), (2, .int x2)] [] M) : ∀ (x2 : Int32) (y0 : Int32) (M : Mem), mX7_stuck_b70 k0 ih9 x2 y0 M = some (MO, vo) → At p l e (rmO 6 0 0) s m args below meth c 0 0 (MQ below (Qg G kd ad s.heap.size MO (some (.int vo))) args s 0 0 (AS kd ad s.heap.size)) G kd ad 3 70 [(0, .ref (ad k0)), (2, .int x2)] [.int y0] M := by
  intro x2 y0 M hf H locs ls hI hl
  obtain ⟨hx, hb, hml, hr, hown, hts, hlk, hK, hap, hsx⟩ := id C
  unfold mX7_stuck_b70 at hf
  refine lv_iconst (v := 0) hx hb (dc tbX7_stuck_1_k 1 rfl) ic_0 ?_
  exact tX7_stuck_b71 C hk0 hih9 x2 y0 (0 : Int32) M hf _ _ _ hI (lv_sub hl [0, 1] rfl)
def mX7_stuck_b9 (k0 : Nat) (ih9 : Int32 → Int32 → Mem → Option (Mem × Int32)) (x1 : Int32) (x2 : Int32) (M : Mem) : Option (Mem × Int32) := chk (okb (0 : Int32) 86) (ite2 ((rd M (k0 + 1) ((0 : Int32)).toNatClampNeg) ≤ x2) (some (M, x1)) (chk (okb (52 : Int32) 86) (cap (mX7_has (rd M (k0 + 1) ((52 : Int32)).toNatClampNeg) x2 M) (fun r7 => ite2 (r7 = 0) (chk (okb (52 : Int32) 86) (cal (mX7_reasonOf k0 x2 (0 : Int32) (rd M (k0 + 1) ((52 : Int32)).toNatClampNeg) M) (fun M15 r14 => ite2 (r14 = 0) (mX7_stuck_b70 k0 ih9 x2 x1 M15) (chk (okb (52 : Int32) 86) (cal (mX7_reasonOf k0 x2 (1 : Int32) (rd M15 (k0 + 1) ((52 : Int32)).toNatClampNeg) M15) (fun M20 r19 => ite2 (r19 = 0) (mX7_stuck_b70 k0 ih9 x2 x1 M20) (mX7_stuck_b71 k0 ih9 x2 x1 (1 : Int32) M20))))))) (mX7_stuck_b70 k0 ih9 x2 x1 M)))))
set_option maxHeartbeats 4000000 in
set_option maxRecDepth 100000 in
theorem tX7_stuck_b9 {p : Program} {l : Launch} {e : Env} {s : State} {m : MethodId} {args : Array Value} {below : List Frame} {meth : Method} {c : Code} {G : GT} {kd : Nat → Nat × Nat} {ad : Nat → Nat} (C : Cx p s m args meth c cX7_stuck 3 (some .int) RX7 G kd ad) {k0 : Nat} (hk0 : kModel kd k0) {MO : Mem} {vo : Int32} {ih9 : Int32 → Int32 → Mem → Option (Mem × Int32)} (hih9 : ∀ (x1 : Int32) (x2 : Int32) (M : Mem), ih9 x1 x2 M = some (MO, vo) → At p l e (rmO 6 0 0) s m args below meth c 0 0 (MQ below (Qg G kd ad s.heap.size MO (some (.int vo))) args s 0 0 (AS kd ad s.heap.size)) G kd ad 3 9 [(0, .ref (ad k0)), (1, .int x1), (2, .int x2)] [] M) : ∀ (x1 : Int32) (x2 : Int32) (M : Mem), mX7_stuck_b9 k0 ih9 x1 x2 M = some (MO, vo) → At p l e (rmO 6 0 0) s m args below meth c 0 0 (MQ below (Qg G kd ad s.heap.size MO (some (.int vo))) args s 0 0 (AS kd ad s.heap.size)) G kd ad 3 9 [(0, .ref (ad k0)), (1, .int x1), (2, .int x2)] [] M := by
  intro x1 x2 M hf H locs ls hI hl
  obtain ⟨hx, hb, hml, hr, hown, hts, hlk, hK, hap, hsx⟩ := id C
  unfold mX7_stuck_b9 at hf
  refine lv_iload_n hx hb (dc tbX7_stuck_0_k 7 rfl) rfl (lv_at hl 2 rfl) ?_
  refine lv_aload_n hx hb (dc tbX7_stuck_0_k 8 rfl) rfl (lv_at hl 0 rfl) ?_
  refine gg7_0 hx hb hts hown hK hI hk0.1 q_t7_76 (dc tbX7_stuck_0_k 9 rfl) ?_
  refine lv_iconst (v := 0) hx hb (dc tbX7_stuck_0_k 10 rfl) ic_0 ?_
  obtain ⟨h3, hf⟩ := chk_s hf
  refine g_iald hx hb hK hI hk0.2.1 (okb_in h3) (dc tbX7_stuck_0_k 11 rfl) ?_
  refine lv_icmp_ge (tgt := 79) hx hb (dc tbX7_stuck_0_k 12 rfl) rfl (fun c4 => ?_) (fun c4 => ?_)
  · have hf := ite_t c4 hf
    refine lv_iload_n hx hb (dc tbX7_stuck_1_k 6 rfl) rfl (lv_at hl 1 rfl) ?_
    cases hf
    exact g_iret hx hb hr hlk hI (dc tbX7_stuck_1_k 7 rfl)
  · have hf := ite_f c4 hf
    refine lv_iload_n hx hb (dc tbX7_stuck_0_k 13 rfl) rfl (lv_at hl 1 rfl) ?_
    refine lv_aload_n hx hb (dc tbX7_stuck_0_k 14 rfl) rfl (lv_at hl 0 rfl) ?_
    refine gg7_0 hx hb hts hown hK hI hk0.1 q_t7_76 (dc tbX7_stuck_0_k 15 rfl) ?_
    refine lv_bipush (v := 52) hx hb (dc tbX7_stuck_0_k 16 rfl) bp_52 ?_
    obtain ⟨h5, hf⟩ := chk_s hf
    refine g_iald hx hb hK hI hk0.2.1 (okb_in h5) (dc tbX7_stuck_0_k 17 rfl) ?_
    refine lv_iload_n hx hb (dc tbX7_stuck_0_k 18 rfl) rfl (lv_at hl 2 rfl) ?_
    obtain ⟨r7, q6, hf⟩ := cap_s hf
    refine g_callSi hx hb hml hown hts hK hap hsx hI (tX7_has l  q6 H.size) cs_X7_has q_t8_226 rfl rfl ⟨Nat.le_of_ble_eq_true rfl, Nat.le_of_ble_eq_true rfl⟩ rfl hl.1 rfl (Nat.le_of_ble_eq_true rfl) (dc tbX7_stuck_0_k 19 rfl) ⟨Nat.le_of_ble_eq_true rfl, Nat.le_of_ble_eq_true rfl⟩ (fun H locs hI => ?_)
    refine lv_if_ne (tgt := 70) hx hb (dc tbX7_stuck_0_k 20 rfl) rfl (fun c9 => ?_) (fun c9 => ?_)
    · have hf := ite_f c9 hf
      exact tX7_stuck_b70 C hk0 hih9 x2 x1 M hf _ _ _ hI (lv_sub hl [0, 2] rfl)
    · have hf := ite_t c9 hf
      refine lv_aload_n hx hb (dc tbX7_stuck_0_k 21 rfl) rfl (lv_at hl 0 rfl) ?_
      refine lv_iload_n hx hb (dc tbX7_stuck_0_k 22 rfl) rfl (lv_at hl 2 rfl) ?_
      refine lv_iconst (v := 0) hx hb (dc tbX7_stuck_0_k 23 rfl) ic_0 ?_
      refine lv_aload_n hx hb (dc tbX7_stuck_0_k 24 rfl) rfl (lv_at hl 0 rfl) ?_
      refine gg7_0 hx hb hts hown hK hI hk0.1 q_t7_76 (dc tbX7_stuck_0_k 25 rfl) ?_
      refine lv_bipush (v := 52) hx hb (dc tbX7_stuck_0_k 26 rfl) bp_52 ?_
      obtain ⟨h12, hf⟩ := chk_s hf
      refine g_iald hx hb hK hI hk0.2.1 (okb_in h12) (dc tbX7_stuck_0_k 27 rfl) ?_
      obtain ⟨M15, r14, q13, hf⟩ := cal_s hf
      refine g_callVi hx hb hml hown hts hK hap hsx hI (tX7_reasonOf l hk0 q13 H.size) cv_X7_reasonOf q_t8_222 rfl rfl ⟨Nat.le_of_ble_eq_true rfl, Nat.le_of_ble_eq_true rfl⟩ hk0.1 (by simp) rfl rfl rfl hl.1 rfl (Nat.le_of_ble_eq_true rfl) (dc tbX7_stuck_0_k 28 rfl) ⟨Nat.le_of_ble_eq_true rfl, Nat.le_of_ble_eq_true rfl⟩ (fun H locs hI => ?_)
      refine lv_if_eq (tgt := 70) hx hb (dc tbX7_stuck_0_k 29 rfl) rfl (fun c16 => ?_) (fun c16 => ?_)
      · have hf := ite_t c16 hf
        exact tX7_stuck_b70 C hk0 hih9 x2 x1 M15 hf _ _ _ hI (lv_sub hl [0, 2] rfl)
      · have hf := ite_f c16 hf
        refine lv_aload_n hx hb (dc tbX7_stuck_0_k 30 rfl) rfl (lv_at hl 0 rfl) ?_
        refine lv_iload_n hx hb (dc tbX7_stuck_0_k 31 rfl) rfl (lv_at hl 2 rfl) ?_
        refine lv_iconst (v := 1) hx hb (dc tbX7_stuck_0_k 32 rfl) ic_1 ?_
        refine lv_aload_n hx hb (dc tbX7_stuck_0_k 33 rfl) rfl (lv_at hl 0 rfl) ?_
        refine gg7_0 hx hb hts hown hK hI hk0.1 q_t7_76 (dc tbX7_stuck_0_k 34 rfl) ?_
        refine lv_bipush (v := 52) hx hb (dc tbX7_stuck_0_k 35 rfl) bp_52 ?_
        obtain ⟨h17, hf⟩ := chk_s hf
        refine g_iald hx hb hK hI hk0.2.1 (okb_in h17) (dc tbX7_stuck_0_k 36 rfl) ?_
        obtain ⟨M20, r19, q18, hf⟩ := cal_s hf
        refine g_callVi hx hb hml hown hts hK hap hsx hI (tX7_reasonOf l hk0 q18 H.size) cv_X7_reasonOf q_t8_222 rfl rfl ⟨Nat.le_of_ble_eq_true rfl, Nat.le_of_ble_eq_true rfl⟩ hk0.1 (by simp) rfl rfl rfl hl.1 rfl (Nat.le_of_ble_eq_true rfl) (dc tbX7_stuck_0_k 37 rfl) ⟨Nat.le_of_ble_eq_true rfl, Nat.le_of_ble_eq_true rfl⟩ (fun H locs hI => ?_)
        refine lv_if_eq (tgt := 70) hx hb (dc tbX7_stuck_0_k 38 rfl) rfl (fun c21 => ?_) (fun c21 => ?_)
        · have hf := ite_t c21 hf
          exact tX7_stuck_b70 C hk0 hih9 x2 x1 M20 hf _ _ _ hI (lv_sub hl [0, 2] rfl)
        · have hf := ite_f c21 hf
          refine lv_iconst (v := 1) hx hb (dc tbX7_stuck_0_k 39 rfl) ic_1 ?_
          refine lv_goto (tgt := 71) hx hb (dc tbX7_stuck_1_k 0 rfl) rfl ?_
          exact tX7_stuck_b71 C hk0 hih9 x2 x1 (1 : Int32) M20 hf _ _ _ hI (lv_sub hl [0, 2] rfl)
def mX7_stuck_l9 (k0 : Nat) : Nat → Int32 → Int32 → Mem → Option (Mem × Int32)
  | 0 => fun _ _ _ => none
  | n + 1 => mX7_stuck_b9 k0 (mX7_stuck_l9 k0 n)
theorem tX7_stuck_l9 {p : Program} {l : Launch} {e : Env} {s : State} {m : MethodId} {args : Array Value} {below : List Frame} {meth : Method} {c : Code} {G : GT} {kd : Nat → Nat × Nat} {ad : Nat → Nat} (C : Cx p s m args meth c cX7_stuck 3 (some .int) RX7 G kd ad) {k0 : Nat} (hk0 : kModel kd k0) {MO : Mem} {vo : Int32}   : ∀ (fuel : Nat) (x1 : Int32) (x2 : Int32) (M : Mem), mX7_stuck_l9 k0 fuel x1 x2 M = some (MO, vo) → At p l e (rmO 6 0 0) s m args below meth c 0 0 (MQ below (Qg G kd ad s.heap.size MO (some (.int vo))) args s 0 0 (AS kd ad s.heap.size)) G kd ad 3 9 [(0, .ref (ad k0)), (1, .int x1), (2, .int x2)] [] M := by
  intro fuel
  induction fuel with
  | zero => intro x1 x2 M hf; cases hf
  | succ n IH => exact tX7_stuck_b9 C hk0 IH
def mX7_stuck (k0 : Nat) (M : Mem) : Option (Mem × Int32) := bnd (wr M k0 5 (0 : Int32)) (fun M1 => mX7_stuck_l9 k0 5000 (0 : Int32) (0 : Int32) M1)
set_option maxHeartbeats 4000000 in
set_option maxRecDepth 100000 in
theorem tX7_stuck (l : Launch) {G : GT} {kd : Nat → Nat × Nat} {ad : Nat → Nat} {k0 : Nat} (hk0 : kModel kd k0) {M : Mem} {MO : Mem} {vo : Int32} (hf : mX7_stuck k0 M = some (MO, vo)) (n : Nat) : Met l yX7_stuck (Cond.code yX7_stuck cX7_stuck 3 (some .int) :: WA) (rmO 6 0 0) (Pg G kd ad n [.ref (ad k0)] M) (Qg G kd ad n MO (some (.int vo))) 0 0 (AS kd ad n) := by
  refine g_body (own := RX7) (by decide) rfl ?_ (Nat.le_of_ble_eq_true rfl)
  intro p e s m args below meth c C _ H locs ls hI hl
  obtain ⟨hx, hb, hml, hr, hown, hts, hlk, hK, hap, hsx⟩ := id C
  have hl : lv_has ls 3 [(0, .ref (ad k0))] := hl
  unfold mX7_stuck at hf
  refine lv_aload_n hx hb (dc tbX7_stuck_0_k 0 rfl) rfl (lv_at hl 0 rfl) ?_
  refine lv_iconst (v := 0) hx hb (dc tbX7_stuck_0_k 1 rfl) ic_0 ?_
  obtain ⟨M1, e2, hf⟩ := bnd_s hf
  refine gp7_5 hx hb hts hown hK hap hI hk0.1 q_t7_81 (dc tbX7_stuck_0_k 2 rfl) e2 (fun H locs hI => ?_)
  refine lv_iconst (v := 0) hx hb (dc tbX7_stuck_0_k 3 rfl) ic_0 ?_
  refine lv_istore_n (lv' := [(1, .int (0 : Int32)), (0, .ref (ad k0))]) hx hb (dc tbX7_stuck_0_k 4 rfl) rfl hl (by decide) rfl (fun ls hl => ?_)
  refine lv_iconst (v := 0) hx hb (dc tbX7_stuck_0_k 5 rfl) ic_0 ?_
  refine lv_istore_n (lv' := [(2, .int (0 : Int32)), (1, .int (0 : Int32)), (0, .ref (ad k0))]) hx hb (dc tbX7_stuck_0_k 6 rfl) rfl hl (by decide) rfl (fun ls hl => ?_)
  exact tX7_stuck_l9 C hk0 5000 (0 : Int32) (0 : Int32) M1 hf _ _ _ hI (lv_sub hl [2, 1, 0] rfl)
theorem cv_X7_stuck : cvF RX7 yX7_stuck cX7_stuck 3 (some .int) 0 := ⟨q_t9_74, q_t9_75, q_t1_11, q_t9_76, by decide +kernel⟩
def mX7_costBehind_b55 (k0 : Nat) (M : Mem) (x3 : Int32) (x6 : Int32) (x7 : Int32) : Option Int32 := ite2 (x3 = x6) (some x7) (chk (okb (51 : Int32) 86) (bnd ((x7 + (rd M (k0 + 1) ((51 : Int32)).toNatClampNeg))) (fun x7_71 => some x7_71)))
set_option maxHeartbeats 4000000 in
set_option maxRecDepth 100000 in
theorem tX7_costBehind_b55 {p : Program} {l : Launch} {e : Env} {s : State} {m : MethodId} {args : Array Value} {below : List Frame} {meth : Method} {c : Code} {G : GT} {kd : Nat → Nat × Nat} {ad : Nat → Nat} (C : Cx p s m args meth c cX7_costBehind 8 (some .int) RX7 G kd ad) {k0 : Nat} (hk0 : kModel kd k0) {M : Mem} {vo : Int32}   : ∀ (x3 : Int32) (x6 : Int32) (x7 : Int32), mX7_costBehind_b55 k0 M x3 x6 x7 = some vo → At p l e (rmO 0 0 0) s m args below meth c 0 0 (MQ below (Qg G kd ad s.heap.size M (some (.int vo))) args s 0 0 (AS kd ad s.heap.size)) G kd ad 8 55 [(0, .ref (ad k0)), (3, .int x3), (6, .int x6), (7, .int x7)] [] M := by
  intro x3 x6 x7 hf H locs ls hI hl
  obtain ⟨hx, hb, hml, hr, hown, hts, hlk, hK, hap, hsx⟩ := id C
  unfold mX7_costBehind_b55 at hf
  refine lv_iload_n hx hb (dc tbX7_costBehind_0_k 32 rfl) rfl (lv_at hl 1 rfl) ?_
  refine lv_iload hx hb (dc tbX7_costBehind_0_k 33 rfl) (lv_at hl 2 rfl) ?_
  refine lv_icmp_eq (tgt := 73) hx hb (dc tbX7_costBehind_0_k 34 rfl) rfl (fun c5 => ?_) (fun c5 => ?_)
  · have hf := ite_t c5 hf
    refine lv_iload hx hb (dc tbX7_costBehind_1_k 2 rfl) (lv_at hl 3 rfl) ?_
    cases hf
    exact g_iret hx hb hr hlk hI (dc tbX7_costBehind_1_k 3 rfl)
  · have hf := ite_f c5 hf
    refine lv_iload hx hb (dc tbX7_costBehind_0_k 35 rfl) (lv_at hl 3 rfl) ?_
    refine lv_aload_n hx hb (dc tbX7_costBehind_0_k 36 rfl) rfl (lv_at hl 0 rfl) ?_
    refine gg7_0 hx hb hts hown hK hI hk0.1 q_t7_76 (dc tbX7_costBehind_0_k 37 rfl) ?_
    refine lv_bipush (v := 51) hx hb (dc tbX7_costBehind_0_k 38 rfl) bp_51 ?_
    obtain ⟨h6, hf⟩ := chk_s hf
    refine g_iald hx hb hK hI hk0.2.1 (okb_in h6) (dc tbX7_costBehind_0_k 39 rfl) ?_
    refine lv_iadd hx hb (dc tbX7_costBehind_1_k 0 rfl) ?_
    obtain ⟨x7_71, e7, hf⟩ := bnd_s hf
    refine lv_ei e7 ?_
    refine lv_istore (lv' := [(7, .int x7_71), (0, .ref (ad k0)), (3, .int x3), (6, .int x6)]) hx hb (dc tbX7_costBehind_1_k 1 rfl) hl (by decide) rfl (fun ls hl => ?_)
    refine lv_iload hx hb (dc tbX7_costBehind_1_k 2 rfl) (lv_at hl 0 rfl) ?_
    cases hf
    exact g_iret hx hb hr hlk hI (dc tbX7_costBehind_1_k 3 rfl)
def mX7_costBehind_b37 (k0 : Nat) (M : Mem) (x2 : Int32) (x3 : Int32) (x5 : Int32) (x6 : Int32) (x7 : Int32) : Option Int32 := ite2 (x2 = x5) (mX7_costBehind_b55 k0 M x3 x6 x7) (chk (okb (50 : Int32) 86) (bnd ((x7 + (rd M (k0 + 1) ((50 : Int32)).toNatClampNeg))) (fun x7_53 => mX7_costBehind_b55 k0 M x3 x6 x7_53)))
set_option maxHeartbeats 4000000 in
set_option maxRecDepth 100000 in
theorem tX7_costBehind_b37 {p : Program} {l : Launch} {e : Env} {s : State} {m : MethodId} {args : Array Value} {below : List Frame} {meth : Method} {c : Code} {G : GT} {kd : Nat → Nat × Nat} {ad : Nat → Nat} (C : Cx p s m args meth c cX7_costBehind 8 (some .int) RX7 G kd ad) {k0 : Nat} (hk0 : kModel kd k0) {M : Mem} {vo : Int32}   : ∀ (x2 : Int32) (x3 : Int32) (x5 : Int32) (x6 : Int32) (x7 : Int32), mX7_costBehind_b37 k0 M x2 x3 x5 x6 x7 = some vo → At p l e (rmO 0 0 0) s m args below meth c 0 0 (MQ below (Qg G kd ad s.heap.size M (some (.int vo))) args s 0 0 (AS kd ad s.heap.size)) G kd ad 8 37 [(0, .ref (ad k0)), (2, .int x2), (3, .int x3), (5, .int x5), (6, .int x6), (7, .int x7)] [] M := by
  intro x2 x3 x5 x6 x7 hf H locs ls hI hl
  obtain ⟨hx, hb, hml, hr, hown, hts, hlk, hK, hap, hsx⟩ := id C
  unfold mX7_costBehind_b37 at hf
  refine lv_iload_n hx hb (dc tbX7_costBehind_0_k 22 rfl) rfl (lv_at hl 1 rfl) ?_
  refine lv_iload hx hb (dc tbX7_costBehind_0_k 23 rfl) (lv_at hl 3 rfl) ?_
  refine lv_icmp_eq (tgt := 55) hx hb (dc tbX7_costBehind_0_k 24 rfl) rfl (fun c4 => ?_) (fun c4 => ?_)
  · have hf := ite_t c4 hf
    exact tX7_costBehind_b55 C hk0 x3 x6 x7 hf _ _ _ hI (lv_sub hl [0, 2, 4, 5] rfl)
  · have hf := ite_f c4 hf
    refine lv_iload hx hb (dc tbX7_costBehind_0_k 25 rfl) (lv_at hl 5 rfl) ?_
    refine lv_aload_n hx hb (dc tbX7_costBehind_0_k 26 rfl) rfl (lv_at hl 0 rfl) ?_
    refine gg7_0 hx hb hts hown hK hI hk0.1 q_t7_76 (dc tbX7_costBehind_0_k 27 rfl) ?_
    refine lv_bipush (v := 50) hx hb (dc tbX7_costBehind_0_k 28 rfl) bp_50 ?_
    obtain ⟨h8, hf⟩ := chk_s hf
    refine g_iald hx hb hK hI hk0.2.1 (okb_in h8) (dc tbX7_costBehind_0_k 29 rfl) ?_
    refine lv_iadd hx hb (dc tbX7_costBehind_0_k 30 rfl) ?_
    obtain ⟨x7_53, e9, hf⟩ := bnd_s hf
    refine lv_ei e9 ?_
    refine lv_istore (lv' := [(7, .int x7_53), (0, .ref (ad k0)), (2, .int x2), (3, .int x3), (5, .int x5), (6, .int x6)]) hx hb (dc tbX7_costBehind_0_k 31 rfl) hl (by decide) rfl (fun ls hl => ?_)
    exact tX7_costBehind_b55 C hk0 x3 x6 x7_53 hf _ _ _ hI (lv_sub hl [1, 3, 5, 0] rfl)
def mX7_costBehind (k0 : Nat) (x1 : Int32) (x2 : Int32) (x3 : Int32) (x4 : Int32) (x5 : Int32) (x6 : Int32) (M : Mem) : Option Int32 := chk (okb ((11 : Int32) + x1) 86) (chk (okb ((11 : Int32) + x4) 86) (ite2 ((rd M (k0 + 1) (((11 : Int32) + x1)).toNatClampNeg) = (rd M (k0 + 1) (((11 : Int32) + x4)).toNatClampNeg)) (mX7_costBehind_b37 k0 M x2 x3 x5 x6 (0 : Int32)) (chk (okb (49 : Int32) 86) (bnd (((0 : Int32) + (rd M (k0 + 1) ((49 : Int32)).toNatClampNeg))) (fun x7_35 => mX7_costBehind_b37 k0 M x2 x3 x5 x6 x7_35)))))
set_option maxHeartbeats 4000000 in
set_option maxRecDepth 100000 in
theorem tX7_costBehind (l : Launch) {G : GT} {kd : Nat → Nat × Nat} {ad : Nat → Nat} {k0 : Nat} (hk0 : kModel kd k0) {x1 : Int32} {x2 : Int32} {x3 : Int32} {x4 : Int32} {x5 : Int32} {x6 : Int32} {M : Mem} {vo : Int32} (hf : mX7_costBehind k0 x1 x2 x3 x4 x5 x6 M = some vo) (n : Nat) : Met l yX7_costBehind (Cond.code yX7_costBehind cX7_costBehind 8 (some .int) :: WA) (rmO 0 0 0) (Pg G kd ad n [.ref (ad k0), .int x1, .int x2, .int x3, .int x4, .int x5, .int x6] M) (Qg G kd ad n M (some (.int vo))) 0 0 (AS kd ad n) := by
  refine g_body (own := RX7) (by decide) rfl ?_ (Nat.le_of_ble_eq_true rfl)
  intro p e s m args below meth c C _ H locs ls hI hl
  obtain ⟨hx, hb, hml, hr, hown, hts, hlk, hK, hap, hsx⟩ := id C
  have hl : lv_has ls 8 [(0, .ref (ad k0)), (1, .int x1), (2, .int x2), (3, .int x3), (4, .int x4), (5, .int x5), (6, .int x6)] := hl
  unfold mX7_costBehind at hf
  refine lv_iconst (v := 0) hx hb (dc tbX7_costBehind_0_k 0 rfl) ic_0 ?_
  refine lv_istore (lv' := [(7, .int (0 : Int32)), (0, .ref (ad k0)), (1, .int x1), (2, .int x2), (3, .int x3), (4, .int x4), (5, .int x5), (6, .int x6)]) hx hb (dc tbX7_costBehind_0_k 1 rfl) hl (by decide) rfl (fun ls hl => ?_)
  refine lv_aload_n hx hb (dc tbX7_costBehind_0_k 2 rfl) rfl (lv_at hl 1 rfl) ?_
  refine gg7_0 hx hb hts hown hK hI hk0.1 q_t7_76 (dc tbX7_costBehind_0_k 3 rfl) ?_
  refine lv_bipush (v := 11) hx hb (dc tbX7_costBehind_0_k 4 rfl) bp_11 ?_
  refine lv_iload_n hx hb (dc tbX7_costBehind_0_k 5 rfl) rfl (lv_at hl 2 rfl) ?_
  refine lv_iadd hx hb (dc tbX7_costBehind_0_k 6 rfl) ?_
  obtain ⟨h1, hf⟩ := chk_s hf
  refine g_iald hx hb hK hI hk0.2.1 (okb_in h1) (dc tbX7_costBehind_0_k 7 rfl) ?_
  refine lv_aload_n hx hb (dc tbX7_costBehind_0_k 8 rfl) rfl (lv_at hl 1 rfl) ?_
  refine gg7_0 hx hb hts hown hK hI hk0.1 q_t7_76 (dc tbX7_costBehind_0_k 9 rfl) ?_
  refine lv_bipush (v := 11) hx hb (dc tbX7_costBehind_0_k 10 rfl) bp_11 ?_
  refine lv_iload hx hb (dc tbX7_costBehind_0_k 11 rfl) (lv_at hl 5 rfl) ?_
  refine lv_iadd hx hb (dc tbX7_costBehind_0_k 12 rfl) ?_
  obtain ⟨h2, hf⟩ := chk_s hf
  refine g_iald hx hb hK hI hk0.2.1 (okb_in h2) (dc tbX7_costBehind_0_k 13 rfl) ?_
  refine lv_icmp_eq (tgt := 37) hx hb (dc tbX7_costBehind_0_k 14 rfl) rfl (fun c3 => ?_) (fun c3 => ?_)
  · have hf := ite_t c3 hf
    exact tX7_costBehind_b37 C hk0 x2 x3 x5 x6 (0 : Int32) hf _ _ _ hI (lv_sub hl [1, 3, 4, 6, 7, 0] rfl)
  · have hf := ite_f c3 hf
    refine lv_iload hx hb (dc tbX7_costBehind_0_k 15 rfl) (lv_at hl 0 rfl) ?_
    refine lv_aload_n hx hb (dc tbX7_costBehind_0_k 16 rfl) rfl (lv_at hl 1 rfl) ?_
    refine gg7_0 hx hb hts hown hK hI hk0.1 q_t7_76 (dc tbX7_costBehind_0_k 17 rfl) ?_
    refine lv_bipush (v := 49) hx hb (dc tbX7_costBehind_0_k 18 rfl) bp_49 ?_
    obtain ⟨h10, hf⟩ := chk_s hf
    refine g_iald hx hb hK hI hk0.2.1 (okb_in h10) (dc tbX7_costBehind_0_k 19 rfl) ?_
    refine lv_iadd hx hb (dc tbX7_costBehind_0_k 20 rfl) ?_
    obtain ⟨x7_35, e11, hf⟩ := bnd_s hf
    refine lv_ei e11 ?_
    refine lv_istore (lv' := [(7, .int x7_35), (0, .ref (ad k0)), (1, .int x1), (2, .int x2), (3, .int x3), (4, .int x4), (5, .int x5), (6, .int x6)]) hx hb (dc tbX7_costBehind_0_k 21 rfl) hl (by decide) rfl (fun ls hl => ?_)
    exact tX7_costBehind_b37 C hk0 x2 x3 x5 x6 x7_35 hf _ _ _ hI (lv_sub hl [1, 3, 4, 6, 7, 0] rfl)
theorem cv_X7_costBehind : cvF RX7 yX7_costBehind cX7_costBehind 8 (some .int) 6 := ⟨q_t9_87, q_s6_5, q_t1_11, q_t9_88, by decide +kernel⟩
def mX7_costNow (k0 : Nat) (x1 : Int32) (x2 : Int32) (M : Mem) : Option (Mem × Int32) := chk (okb (53 : Int32) 86) (ite2 ((rd M (k0 + 1) ((53 : Int32)).toNatClampNeg) = 0) (some (M, (0 : Int32))) (chk (okb (53 : Int32) 86) (bnd (((rd M (k0 + 1) ((53 : Int32)).toNatClampNeg) - (1 : Int32))) (fun x3_21 => cap (mX7_stepOf k0 x3_21 (0 : Int32) M) (fun r6 => cap (mX7_stepOf k0 x3_21 (1 : Int32) M) (fun r9 => cap (mX7_stepOf k0 x3_21 (2 : Int32) M) (fun r12 => chk (okb (52 : Int32) 86) (cal (mX7_gaugeOf k0 x1 x2 (rd M (k0 + 1) ((52 : Int32)).toNatClampNeg) M) (fun M17 r16 => cap (mX7_costBehind k0 r6 r9 r12 x1 x2 r16 M17) (fun r19 => some (M17, r19)))))))))))
set_option maxHeartbeats 4000000 in
set_option maxRecDepth 100000 in
theorem tX7_costNow (l : Launch) {G : GT} {kd : Nat → Nat × Nat} {ad : Nat → Nat} {k0 : Nat} (hk0 : kModel kd k0) {x1 : Int32} {x2 : Int32} {M : Mem} {MO : Mem} {vo : Int32} (hf : mX7_costNow k0 x1 x2 M = some (MO, vo)) (n : Nat) : Met l yX7_costNow (Cond.code yX7_costNow cX7_costNow 4 (some .int) :: WA) (rmO 5 0 0) (Pg G kd ad n [.ref (ad k0), .int x1, .int x2] M) (Qg G kd ad n MO (some (.int vo))) 0 0 (AS kd ad n) := by
  refine g_body (own := RX7) (by decide) rfl ?_ (Nat.le_of_ble_eq_true rfl)
  intro p e s m args below meth c C _ H locs ls hI hl
  obtain ⟨hx, hb, hml, hr, hown, hts, hlk, hK, hap, hsx⟩ := id C
  have hl : lv_has ls 4 [(0, .ref (ad k0)), (1, .int x1), (2, .int x2)] := hl
  unfold mX7_costNow at hf
  refine lv_aload_n hx hb (dc tbX7_costNow_k 0 rfl) rfl (lv_at hl 0 rfl) ?_
  refine gg7_0 hx hb hts hown hK hI hk0.1 q_t7_76 (dc tbX7_costNow_k 1 rfl) ?_
  refine lv_bipush (v := 53) hx hb (dc tbX7_costNow_k 2 rfl) bp_53 ?_
  obtain ⟨h1, hf⟩ := chk_s hf
  refine g_iald hx hb hK hI hk0.2.1 (okb_in h1) (dc tbX7_costNow_k 3 rfl) ?_
  refine lv_if_ne (tgt := 12) hx hb (dc tbX7_costNow_k 4 rfl) rfl (fun c2 => ?_) (fun c2 => ?_)
  · have hf := ite_f c2 hf
    refine lv_aload_n hx hb (dc tbX7_costNow_k 7 rfl) rfl (lv_at hl 0 rfl) ?_
    refine gg7_0 hx hb hts hown hK hI hk0.1 q_t7_76 (dc tbX7_costNow_k 8 rfl) ?_
    refine lv_bipush (v := 53) hx hb (dc tbX7_costNow_k 9 rfl) bp_53 ?_
    obtain ⟨h3, hf⟩ := chk_s hf
    refine g_iald hx hb hK hI hk0.2.1 (okb_in h3) (dc tbX7_costNow_k 10 rfl) ?_
    refine lv_iconst (v := 1) hx hb (dc tbX7_costNow_k 11 rfl) ic_1 ?_
    refine lv_isub hx hb (dc tbX7_costNow_k 12 rfl) ?_
    obtain ⟨x3_21, e4, hf⟩ := bnd_s hf
    refine lv_ei e4 ?_
    refine lv_istore_n (lv' := [(3, .int x3_21), (0, .ref (ad k0)), (1, .int x1), (2, .int x2)]) hx hb (dc tbX7_costNow_k 13 rfl) rfl hl (by decide) rfl (fun ls hl => ?_)
    refine lv_aload_n hx hb (dc tbX7_costNow_k 14 rfl) rfl (lv_at hl 1 rfl) ?_
    refine lv_aload_n hx hb (dc tbX7_costNow_k 15 rfl) rfl (lv_at hl 1 rfl) ?_
    refine lv_iload_n hx hb (dc tbX7_costNow_k 16 rfl) rfl (lv_at hl 0 rfl) ?_
    refine lv_iconst (v := 0) hx hb (dc tbX7_costNow_k 17 rfl) ic_0 ?_
    obtain ⟨r6, q5, hf⟩ := cap_s hf
    refine g_callVi hx hb hml hown hts hK hap hsx hI (tX7_stepOf l hk0 q5 H.size) cv_X7_stepOf q_t8_203 rfl rfl ⟨Nat.le_of_ble_eq_true rfl, Nat.le_of_ble_eq_true rfl⟩ hk0.1 (by simp) rfl rfl rfl hl.1 rfl (Nat.le_of_ble_eq_true rfl) (dc tbX7_costNow_k 18 rfl) ⟨Nat.le_of_ble_eq_true rfl, Nat.le_of_ble_eq_true rfl⟩ (fun H locs hI => ?_)
    refine lv_aload_n hx hb (dc tbX7_costNow_k 19 rfl) rfl (lv_at hl 1 rfl) ?_
    refine lv_iload_n hx hb (dc tbX7_costNow_k 20 rfl) rfl (lv_at hl 0 rfl) ?_
    refine lv_iconst (v := 1) hx hb (dc tbX7_costNow_k 21 rfl) ic_1 ?_
    obtain ⟨r9, q8, hf⟩ := cap_s hf
    refine g_callVi hx hb hml hown hts hK hap hsx hI (tX7_stepOf l hk0 q8 H.size) cv_X7_stepOf q_t8_203 rfl rfl ⟨Nat.le_of_ble_eq_true rfl, Nat.le_of_ble_eq_true rfl⟩ hk0.1 (by simp) rfl rfl rfl hl.1 rfl (Nat.le_of_ble_eq_true rfl) (dc tbX7_costNow_k 22 rfl) ⟨Nat.le_of_ble_eq_true rfl, Nat.le_of_ble_eq_true rfl⟩ (fun H locs hI => ?_)
    refine lv_aload_n hx hb (dc tbX7_costNow_k 23 rfl) rfl (lv_at hl 1 rfl) ?_
    refine lv_iload_n hx hb (dc tbX7_costNow_k 24 rfl) rfl (lv_at hl 0 rfl) ?_
    refine lv_iconst (v := 2) hx hb (dc tbX7_costNow_k 25 rfl) ic_2 ?_
    obtain ⟨r12, q11, hf⟩ := cap_s hf
    refine g_callVi hx hb hml hown hts hK hap hsx hI (tX7_stepOf l hk0 q11 H.size) cv_X7_stepOf q_t8_203 rfl rfl ⟨Nat.le_of_ble_eq_true rfl, Nat.le_of_ble_eq_true rfl⟩ hk0.1 (by simp) rfl rfl rfl hl.1 rfl (Nat.le_of_ble_eq_true rfl) (dc tbX7_costNow_k 26 rfl) ⟨Nat.le_of_ble_eq_true rfl, Nat.le_of_ble_eq_true rfl⟩ (fun H locs hI => ?_)
    refine lv_iload_n hx hb (dc tbX7_costNow_k 27 rfl) rfl (lv_at hl 2 rfl) ?_
    refine lv_iload_n hx hb (dc tbX7_costNow_k 28 rfl) rfl (lv_at hl 3 rfl) ?_
    refine lv_aload_n hx hb (dc tbX7_costNow_k 29 rfl) rfl (lv_at hl 1 rfl) ?_
    refine lv_iload_n hx hb (dc tbX7_costNow_k 30 rfl) rfl (lv_at hl 2 rfl) ?_
    refine lv_iload_n hx hb (dc tbX7_costNow_k 31 rfl) rfl (lv_at hl 3 rfl) ?_
    refine lv_aload_n hx hb (dc tbX7_costNow_k 32 rfl) rfl (lv_at hl 1 rfl) ?_
    refine gg7_0 hx hb hts hown hK hI hk0.1 q_t7_76 (dc tbX7_costNow_k 33 rfl) ?_
    refine lv_bipush (v := 52) hx hb (dc tbX7_costNow_k 34 rfl) bp_52 ?_
    obtain ⟨h14, hf⟩ := chk_s hf
    refine g_iald hx hb hK hI hk0.2.1 (okb_in h14) (dc tbX7_costNow_k 35 rfl) ?_
    obtain ⟨M17, r16, q15, hf⟩ := cal_s hf
    refine g_callVi hx hb hml hown hts hK hap hsx hI (tX7_gaugeOf l hk0 q15 H.size) cv_X7_gaugeOf q_t9_48 rfl rfl ⟨Nat.le_of_ble_eq_true rfl, Nat.le_of_ble_eq_true rfl⟩ hk0.1 (by simp) rfl rfl rfl hl.1 rfl (Nat.le_of_ble_eq_true rfl) (dc tbX7_costNow_k 36 rfl) ⟨Nat.le_of_ble_eq_true rfl, Nat.le_of_ble_eq_true rfl⟩ (fun H locs hI => ?_)
    obtain ⟨r19, q18, hf⟩ := cap_s hf
    refine g_callVi hx hb hml hown hts hK hap hsx hI (tX7_costBehind l hk0 q18 H.size) cv_X7_costBehind q_t9_85 rfl rfl ⟨Nat.le_of_ble_eq_true rfl, Nat.le_of_ble_eq_true rfl⟩ hk0.1 (by simp) rfl rfl rfl hl.1 rfl (Nat.le_of_ble_eq_true rfl) (dc tbX7_costNow_k 37 rfl) ⟨Nat.le_of_ble_eq_true rfl, Nat.le_of_ble_eq_true rfl⟩ (fun H locs hI => ?_)
    cases hf
    exact g_iret hx hb hr hlk hI (dc tbX7_costNow_k 38 rfl)
  · have hf := ite_t c2 hf
    refine lv_iconst (v := 0) hx hb (dc tbX7_costNow_k 5 rfl) ic_0 ?_
    cases hf
    exact g_iret hx hb hr hlk hI (dc tbX7_costNow_k 6 rfl)
theorem cv_X7_costNow : cvF RX7 yX7_costNow cX7_costNow 4 (some .int) 2 := ⟨q_t9_83, q_s6_4, q_t1_11, q_t9_84, by decide +kernel⟩
def mX7_costOf (k0 : Nat) (x1 : Int32) (x2 : Int32) (M : Mem) : Option (Mem × Int32) := cap (mX7_isBend k0 x1 M) (fun r2 => cap (mX7_isSide x2 M) (fun r5 => cal (mX7_good_ k0 r2 r5 M) (fun M9 r8 => ite2 (r8 = 0) (some (M9, (0 : Int32))) (cal (mX7_costNow k0 x1 x2 M9) (fun M13 r12 => some (M13, r12))))))
set_option maxHeartbeats 4000000 in
set_option maxRecDepth 100000 in
theorem tX7_costOf (l : Launch) {G : GT} {kd : Nat → Nat × Nat} {ad : Nat → Nat} {k0 : Nat} (hk0 : kModel kd k0) {x1 : Int32} {x2 : Int32} {M : Mem} {MO : Mem} {vo : Int32} (hf : mX7_costOf k0 x1 x2 M = some (MO, vo)) (n : Nat) : Met l yX7_costOf (Cond.code yX7_costOf cX7_costOf 3 (some .int) :: WA) (rmO 6 0 0) (Pg G kd ad n [.ref (ad k0), .int x1, .int x2] M) (Qg G kd ad n MO (some (.int vo))) 0 0 (AS kd ad n) := by
  refine g_body (own := RX7) (by decide) rfl ?_ (Nat.le_of_ble_eq_true rfl)
  intro p e s m args below meth c C _ H locs ls hI hl
  obtain ⟨hx, hb, hml, hr, hown, hts, hlk, hK, hap, hsx⟩ := id C
  have hl : lv_has ls 3 [(0, .ref (ad k0)), (1, .int x1), (2, .int x2)] := hl
  unfold mX7_costOf at hf
  refine lv_aload_n hx hb (dc tbX7_costOf_k 0 rfl) rfl (lv_at hl 0 rfl) ?_
  refine lv_aload_n hx hb (dc tbX7_costOf_k 1 rfl) rfl (lv_at hl 0 rfl) ?_
  refine lv_iload_n hx hb (dc tbX7_costOf_k 2 rfl) rfl (lv_at hl 1 rfl) ?_
  obtain ⟨r2, q1, hf⟩ := cap_s hf
  refine g_callVi hx hb hml hown hts hK hap hsx hI (tX7_isBend l hk0 q1 H.size) cv_X7_isBend q_t8_64 rfl rfl ⟨Nat.le_of_ble_eq_true rfl, Nat.le_of_ble_eq_true rfl⟩ hk0.1 (by simp) rfl rfl rfl hl.1 rfl (Nat.le_of_ble_eq_true rfl) (dc tbX7_costOf_k 3 rfl) ⟨Nat.le_of_ble_eq_true rfl, Nat.le_of_ble_eq_true rfl⟩ (fun H locs hI => ?_)
  refine lv_iload_n hx hb (dc tbX7_costOf_k 4 rfl) rfl (lv_at hl 2 rfl) ?_
  obtain ⟨r5, q4, hf⟩ := cap_s hf
  refine g_callSi hx hb hml hown hts hK hap hsx hI (tX7_isSide l  q4 H.size) cs_X7_isSide q_t8_219 rfl rfl ⟨Nat.le_of_ble_eq_true rfl, Nat.le_of_ble_eq_true rfl⟩ rfl hl.1 rfl (Nat.le_of_ble_eq_true rfl) (dc tbX7_costOf_k 5 rfl) ⟨Nat.le_of_ble_eq_true rfl, Nat.le_of_ble_eq_true rfl⟩ (fun H locs hI => ?_)
  obtain ⟨M9, r8, q7, hf⟩ := cal_s hf
  refine g_callVi hx hb hml hown hts hK hap hsx hI (tX7_good_ l hk0 q7 H.size) cv_X7_good_ q_t8_186 rfl rfl ⟨Nat.le_of_ble_eq_true rfl, Nat.le_of_ble_eq_true rfl⟩ hk0.1 (by simp) rfl rfl rfl hl.1 rfl (Nat.le_of_ble_eq_true rfl) (dc tbX7_costOf_k 6 rfl) ⟨Nat.le_of_ble_eq_true rfl, Nat.le_of_ble_eq_true rfl⟩ (fun H locs hI => ?_)
  refine lv_if_eq (tgt := 25) hx hb (dc tbX7_costOf_k 7 rfl) rfl (fun c10 => ?_) (fun c10 => ?_)
  · have hf := ite_t c10 hf
    refine lv_iconst (v := 0) hx hb (dc tbX7_costOf_k 13 rfl) ic_0 ?_
    cases hf
    exact g_iret hx hb hr hlk hI (dc tbX7_costOf_k 14 rfl)
  · have hf := ite_f c10 hf
    refine lv_aload_n hx hb (dc tbX7_costOf_k 8 rfl) rfl (lv_at hl 0 rfl) ?_
    refine lv_iload_n hx hb (dc tbX7_costOf_k 9 rfl) rfl (lv_at hl 1 rfl) ?_
    refine lv_iload_n hx hb (dc tbX7_costOf_k 10 rfl) rfl (lv_at hl 2 rfl) ?_
    obtain ⟨M13, r12, q11, hf⟩ := cal_s hf
    refine g_callVi hx hb hml hown hts hK hap hsx hI (tX7_costNow l hk0 q11 H.size) cv_X7_costNow q_t9_81 rfl rfl ⟨Nat.le_of_ble_eq_true rfl, Nat.le_of_ble_eq_true rfl⟩ hk0.1 (by simp) rfl rfl rfl hl.1 rfl (Nat.le_of_ble_eq_true rfl) (dc tbX7_costOf_k 11 rfl) ⟨Nat.le_of_ble_eq_true rfl, Nat.le_of_ble_eq_true rfl⟩ (fun H locs hI => ?_)
    refine lv_goto (tgt := 26) hx hb (dc tbX7_costOf_k 12 rfl) rfl ?_
    cases hf
    exact g_iret hx hb hr hlk hI (dc tbX7_costOf_k 14 rfl)
theorem cv_X7_costOf : cvF RX7 yX7_costOf cX7_costOf 3 (some .int) 2 := ⟨q_t9_78, q_t9_79, q_t1_11, q_t9_80, by decide +kernel⟩
def mX7_full (k0 : Nat) (M : Mem) : Option Int32 := chk (okb (0 : Int32) 86) (some (((1 : Int32) <<< ((rd M (k0 + 1) ((0 : Int32)).toNatClampNeg) &&& 31)) - (1 : Int32)))
set_option maxHeartbeats 4000000 in
set_option maxRecDepth 100000 in
theorem tX7_full (l : Launch) {G : GT} {kd : Nat → Nat × Nat} {ad : Nat → Nat} {k0 : Nat} (hk0 : kModel kd k0) {M : Mem} {vo : Int32} (hf : mX7_full k0 M = some vo) (n : Nat) : Met l yX7_full (Cond.code yX7_full cX7_full 1 (some .int) :: WA) (rmO 0 0 0) (Pg G kd ad n [.ref (ad k0)] M) (Qg G kd ad n M (some (.int vo))) 0 0 (AS kd ad n) := by
  refine g_body (own := RX7) (by decide) rfl ?_ (Nat.le_of_ble_eq_true rfl)
  intro p e s m args below meth c C _ H locs ls hI hl
  obtain ⟨hx, hb, hml, hr, hown, hts, hlk, hK, hap, hsx⟩ := id C
  have hl : lv_has ls 1 [(0, .ref (ad k0))] := hl
  unfold mX7_full at hf
  refine lv_iconst (v := 1) hx hb (dc tbX7_full_k 0 rfl) ic_1 ?_
  refine lv_aload_n hx hb (dc tbX7_full_k 1 rfl) rfl (lv_at hl 0 rfl) ?_
  refine gg7_0 hx hb hts hown hK hI hk0.1 q_t7_76 (dc tbX7_full_k 2 rfl) ?_
  refine lv_iconst (v := 0) hx hb (dc tbX7_full_k 3 rfl) ic_0 ?_
  obtain ⟨h1, hf⟩ := chk_s hf
  refine g_iald hx hb hK hI hk0.2.1 (okb_in h1) (dc tbX7_full_k 4 rfl) ?_
  refine lv_ishl hx hb (dc tbX7_full_k 5 rfl) ?_
  refine lv_iconst (v := 1) hx hb (dc tbX7_full_k 6 rfl) ic_1 ?_
  refine lv_isub hx hb (dc tbX7_full_k 7 rfl) ?_
  cases hf
  exact g_iret hx hb hr hlk hI (dc tbX7_full_k 8 rfl)
theorem cv_X7_full : cvF RX7 yX7_full cX7_full 1 (some .int) 0 := ⟨q_t9_99, q_s6_7, q_t1_11, q_t9_100, by decide +kernel⟩
def mX7_isBehind (k0 : Nat) (x1 : Int32) (M : Mem) : Option Int32 := chk (okb (52 : Int32) 86) (chk (okb (52 : Int32) 86) (ite2 ((x1 &&& (rd M (k0 + 1) ((52 : Int32)).toNatClampNeg)) = (rd M (k0 + 1) ((52 : Int32)).toNatClampNeg)) (some (1 : Int32)) (some (0 : Int32))))
set_option maxHeartbeats 4000000 in
set_option maxRecDepth 100000 in
theorem tX7_isBehind (l : Launch) {G : GT} {kd : Nat → Nat × Nat} {ad : Nat → Nat} {k0 : Nat} (hk0 : kModel kd k0) {x1 : Int32} {M : Mem} {vo : Int32} (hf : mX7_isBehind k0 x1 M = some vo) (n : Nat) : Met l yX7_isBehind (Cond.code yX7_isBehind cX7_isBehind 2 (some .boolean) :: WA) (rmO 0 0 0) (Pg G kd ad n [.ref (ad k0), .int x1] M) (Qg G kd ad n M (some (.int vo))) 0 0 (AS kd ad n) := by
  refine g_body (own := RX7) (by decide) rfl ?_ (Nat.le_of_ble_eq_true rfl)
  intro p e s m args below meth c C _ H locs ls hI hl
  obtain ⟨hx, hb, hml, hr, hown, hts, hlk, hK, hap, hsx⟩ := id C
  have hl : lv_has ls 2 [(0, .ref (ad k0)), (1, .int x1)] := hl
  unfold mX7_isBehind at hf
  refine lv_iload_n hx hb (dc tbX7_isBehind_k 0 rfl) rfl (lv_at hl 1 rfl) ?_
  refine lv_aload_n hx hb (dc tbX7_isBehind_k 1 rfl) rfl (lv_at hl 0 rfl) ?_
  refine gg7_0 hx hb hts hown hK hI hk0.1 q_t7_76 (dc tbX7_isBehind_k 2 rfl) ?_
  refine lv_bipush (v := 52) hx hb (dc tbX7_isBehind_k 3 rfl) bp_52 ?_
  obtain ⟨h1, hf⟩ := chk_s hf
  refine g_iald hx hb hK hI hk0.2.1 (okb_in h1) (dc tbX7_isBehind_k 4 rfl) ?_
  refine lv_iand hx hb (dc tbX7_isBehind_k 5 rfl) ?_
  refine lv_aload_n hx hb (dc tbX7_isBehind_k 6 rfl) rfl (lv_at hl 0 rfl) ?_
  refine gg7_0 hx hb hts hown hK hI hk0.1 q_t7_76 (dc tbX7_isBehind_k 7 rfl) ?_
  refine lv_bipush (v := 52) hx hb (dc tbX7_isBehind_k 8 rfl) bp_52 ?_
  obtain ⟨h2, hf⟩ := chk_s hf
  refine g_iald hx hb hK hI hk0.2.1 (okb_in h2) (dc tbX7_isBehind_k 9 rfl) ?_
  refine lv_icmp_ne (tgt := 23) hx hb (dc tbX7_isBehind_k 10 rfl) rfl (fun c3 => ?_) (fun c3 => ?_)
  · have hf := ite_f c3 hf
    refine lv_iconst (v := 0) hx hb (dc tbX7_isBehind_k 13 rfl) ic_0 ?_
    cases hf
    exact g_zret hx hb hr hlk hI rfl (dc tbX7_isBehind_k 14 rfl)
  · have hf := ite_t c3 hf
    refine lv_iconst (v := 1) hx hb (dc tbX7_isBehind_k 11 rfl) ic_1 ?_
    refine lv_goto (tgt := 24) hx hb (dc tbX7_isBehind_k 12 rfl) rfl ?_
    cases hf
    exact g_zret hx hb hr hlk hI rfl (dc tbX7_isBehind_k 14 rfl)
theorem cv_X7_isBehind : cvF RX7 yX7_isBehind cX7_isBehind 2 (some .boolean) 1 := ⟨q_t9_103, q_s6_8, q_t1_11, q_t9_104, by decide +kernel⟩
def mX7_layOrders_b117 (k0 : Nat) (ih5 : Int32 → Mem → Option (Mem × Unit)) (x1 : Int32) (M : Mem) : Option (Mem × Unit) := bnd (x1 + (-1 : Int32)) (fun x1_117 => ih5 x1_117 M)
set_option maxHeartbeats 4000000 in
set_option maxRecDepth 100000 in
theorem tX7_layOrders_b117 {p : Program} {l : Launch} {e : Env} {s : State} {m : MethodId} {args : Array Value} {below : List Frame} {meth : Method} {c : Code} {G : GT} {kd : Nat → Nat × Nat} {ad : Nat → Nat} (C : Cx p s m args meth c cX7_layOrders 4 none RX7 G kd ad) {k0 : Nat} (hk0 : kModel kd k0) {MO : Mem} {vo : Unit} {ih5 : Int32 → Mem → Option (Mem × Unit)} (hih5 : ∀ (x1 : Int32) (M : Mem), ih5 x1 M = some (MO, vo) → At p l e (rmO 6 0 0) s m args below meth c 0 0 (MQ below (Qg G kd ad s.heap.size MO none) args s 0 0 (AS kd ad s.heap.size)) G kd ad 4 5 [(0, .ref (ad k0)), (1, .int x1)] [] M) : ∀ (x1 : Int32) (M : Mem), mX7_layOrders_b117 k0 ih5 x1 M = some (MO, vo) → At p l e (rmO 6 0 0) s m args below meth c 0 0 (MQ below (Qg G kd ad s.heap.size MO none) args s 0 0 (AS kd ad s.heap.size)) G kd ad 4 117 [(0, .ref (ad k0)), (1, .int x1)] [] M := by
  intro x1 M hf H locs ls hI hl
  obtain ⟨hx, hb, hml, hr, hown, hts, hlk, hK, hap, hsx⟩ := id C
  unfold mX7_layOrders_b117 at hf
  obtain ⟨x1_117, e14, hf⟩ := bnd_s hf
  refine lv_iinc (v := x1_117) (lv' := [(1, .int x1_117), (0, .ref (ad k0))]) hx hb (dc tbX7_layOrders_1_k 36 rfl) hl (k := 1) rfl (ii_e e14 ic_m1) (by decide) rfl (fun ls hl => ?_)
  refine lv_goto (tgt := 5) hx hb (dc tbX7_layOrders_1_k 37 rfl) rfl ?_
  exact hih5 x1_117 M hf _ _ _ hI (lv_sub hl [1, 0] rfl)
def mX7_layOrders_b109 (k0 : Nat) (ih5 : Int32 → Mem → Option (Mem × Unit)) (ih30 : Int32 → Int32 → Mem → Option (Mem × Unit)) (x1 : Int32) (x2 : Int32) (y1 : Int32) (y2 : Int64) (y3 : Int64) (M : Mem) : Option (Mem × Unit) := chk (okb y1 256) (bnd (wl M (k0 + 12) (y1).toNatClampNeg (y2 + y3)) (fun M30 => bnd (x2 + (1 : Int32)) (fun x2_111 => ih30 x1 x2_111 M30)))
set_option maxHeartbeats 4000000 in
set_option maxRecDepth 100000 in
theorem tX7_layOrders_b109 {p : Program} {l : Launch} {e : Env} {s : State} {m : MethodId} {args : Array Value} {below : List Frame} {meth : Method} {c : Code} {G : GT} {kd : Nat → Nat × Nat} {ad : Nat → Nat} (C : Cx p s m args meth c cX7_layOrders 4 none RX7 G kd ad) {k0 : Nat} (hk0 : kModel kd k0) {MO : Mem} {vo : Unit} {ih5 : Int32 → Mem → Option (Mem × Unit)} {ih30 : Int32 → Int32 → Mem → Option (Mem × Unit)} (hih5 : ∀ (x1 : Int32) (M : Mem), ih5 x1 M = some (MO, vo) → At p l e (rmO 6 0 0) s m args below meth c 0 0 (MQ below (Qg G kd ad s.heap.size MO none) args s 0 0 (AS kd ad s.heap.size)) G kd ad 4 5 [(0, .ref (ad k0)), (1, .int x1)] [] M) (hih30 : ∀ (x1 : Int32) (x2 : Int32) (M : Mem), ih30 x1 x2 M = some (MO, vo) → At p l e (rmO 6 0 0) s m args below meth c 0 0 (MQ below (Qg G kd ad s.heap.size MO none) args s 0 0 (AS kd ad s.heap.size)) G kd ad 4 30 [(0, .ref (ad k0)), (1, .int x1), (2, .int x2)] [] M) : ∀ (x1 : Int32) (x2 : Int32) (y1 : Int32) (y2 : Int64) (y3 : Int64) (M : Mem), mX7_layOrders_b109 k0 ih5 ih30 x1 x2 y1 y2 y3 M = some (MO, vo) → At p l e (rmO 6 0 0) s m args below meth c 0 0 (MQ below (Qg G kd ad s.heap.size MO none) args s 0 0 (AS kd ad s.heap.size)) G kd ad 4 109 [(0, .ref (ad k0)), (1, .int x1), (2, .int x2)] [.long y3, .long y2, .int y1, .ref (ad (k0 + 12))] M := by
  intro x1 x2 y1 y2 y3 M hf H locs ls hI hl
  obtain ⟨hx, hb, hml, hr, hown, hts, hlk, hK, hap, hsx⟩ := id C
  unfold mX7_layOrders_b109 at hf
  refine lv_ladd hx hb (dc tbX7_layOrders_1_k 32 rfl) ?_
  obtain ⟨h28, hf⟩ := chk_s hf
  obtain ⟨M30, e29, hf⟩ := bnd_s hf
  refine g_last hx hb hK hap hI hk0.2.2.2.2.2.2.2.2.2.2.2.2.1 (okb_in h28) (dc tbX7_layOrders_1_k 33 rfl) e29 (fun H locs hI => ?_)
  obtain ⟨x2_111, e31, hf⟩ := bnd_s hf
  refine lv_iinc (v := x2_111) (lv' := [(2, .int x2_111), (0, .ref (ad k0)), (1, .int x1)]) hx hb (dc tbX7_layOrders_1_k 34 rfl) hl (k := 2) rfl (ii_e e31 ic_1) (by decide) rfl (fun ls hl => ?_)
  refine lv_goto (tgt := 30) hx hb (dc tbX7_layOrders_1_k 35 rfl) rfl ?_
  exact hih30 x1 x2_111 M30 hf _ _ _ hI (lv_sub hl [1, 2, 0] rfl)
def mX7_layOrders_b69 (k0 : Nat) (ih5 : Int32 → Mem → Option (Mem × Unit)) (ih30 : Int32 → Int32 → Mem → Option (Mem × Unit)) (x1 : Int32) (x2 : Int32) (y0 : Int32) (M : Mem) : Option (Mem × Unit) := chk (okb (((16 : Int32) * x1) + x2) 4096) (bnd (wr M (k0 + 10) ((((16 : Int32) * x1) + x2)).toNatClampNeg (vp_nar .boolean y0)) (fun M25 => chk (okb x1 256) (ite2 (y0 = 0) (mX7_layOrders_b109 k0 ih5 ih30 x1 x2 x1 (rl M25 (k0 + 12) (x1).toNatClampNeg) (0 : Int64) M25) (chk (okb (x1 ||| ((1 : Int32) <<< ((x2 / (2 : Int32)) &&& 31))) 256) (mX7_layOrders_b109 k0 ih5 ih30 x1 x2 x1 (rl M25 (k0 + 12) (x1).toNatClampNeg) (rl M25 (k0 + 12) ((x1 ||| ((1 : Int32) <<< ((x2 / (2 : Int32)) &&& 31)))).toNatClampNeg) M25)))))
set_option maxHeartbeats 4000000 in
set_option maxRecDepth 100000 in
theorem tX7_layOrders_b69 {p : Program} {l : Launch} {e : Env} {s : State} {m : MethodId} {args : Array Value} {below : List Frame} {meth : Method} {c : Code} {G : GT} {kd : Nat → Nat × Nat} {ad : Nat → Nat} (C : Cx p s m args meth c cX7_layOrders 4 none RX7 G kd ad) {k0 : Nat} (hk0 : kModel kd k0) {MO : Mem} {vo : Unit} {ih5 : Int32 → Mem → Option (Mem × Unit)} {ih30 : Int32 → Int32 → Mem → Option (Mem × Unit)} (hih5 : ∀ (x1 : Int32) (M : Mem), ih5 x1 M = some (MO, vo) → At p l e (rmO 6 0 0) s m args below meth c 0 0 (MQ below (Qg G kd ad s.heap.size MO none) args s 0 0 (AS kd ad s.heap.size)) G kd ad 4 5 [(0, .ref (ad k0)), (1, .int x1)] [] M) (hih30 : ∀ (x1 : Int32) (x2 : Int32) (M : Mem), ih30 x1 x2 M = some (MO, vo) → At p l e (rmO 6 0 0) s m args below meth c 0 0 (MQ below (Qg G kd ad s.heap.size MO none) args s 0 0 (AS kd ad s.heap.size)) G kd ad 4 30 [(0, .ref (ad k0)), (1, .int x1), (2, .int x2)] [] M) : ∀ (x1 : Int32) (x2 : Int32) (y0 : Int32) (M : Mem), mX7_layOrders_b69 k0 ih5 ih30 x1 x2 y0 M = some (MO, vo) → At p l e (rmO 6 0 0) s m args below meth c 0 0 (MQ below (Qg G kd ad s.heap.size MO none) args s 0 0 (AS kd ad s.heap.size)) G kd ad 4 69 [(0, .ref (ad k0)), (1, .int x1), (2, .int x2)] [.int y0] M := by
  intro x1 x2 y0 M hf H locs ls hI hl
  obtain ⟨hx, hb, hml, hr, hown, hts, hlk, hK, hap, hsx⟩ := id C
  unfold mX7_layOrders_b69 at hf
  refine lv_istore_n (lv' := [(3, .int y0), (0, .ref (ad k0)), (1, .int x1), (2, .int x2)]) hx hb (dc tbX7_layOrders_1_k 3 rfl) rfl hl (by decide) rfl (fun ls hl => ?_)
  refine lv_aload_n hx hb (dc tbX7_layOrders_1_k 4 rfl) rfl (lv_at hl 1 rfl) ?_
  refine gg7_23 hx hb hts hown hK hI hk0.1 q_t7_99 (dc tbX7_layOrders_1_k 5 rfl) ?_
  refine lv_bipush (v := 16) hx hb (dc tbX7_layOrders_1_k 6 rfl) bp_16 ?_
  refine lv_iload_n hx hb (dc tbX7_layOrders_1_k 7 rfl) rfl (lv_at hl 2 rfl) ?_
  refine lv_imul hx hb (dc tbX7_layOrders_1_k 8 rfl) ?_
  refine lv_iload_n hx hb (dc tbX7_layOrders_1_k 9 rfl) rfl (lv_at hl 3 rfl) ?_
  refine lv_iadd hx hb (dc tbX7_layOrders_1_k 10 rfl) ?_
  refine lv_iload_n hx hb (dc tbX7_layOrders_1_k 11 rfl) rfl (lv_at hl 0 rfl) ?_
  obtain ⟨h23, hf⟩ := chk_s hf
  obtain ⟨M25, e24, hf⟩ := bnd_s hf
  refine g_zast hx hb hK hap hI hk0.2.2.2.2.2.2.2.2.2.2.1 (okb_in h23) (dc tbX7_layOrders_1_k 12 rfl) e24 (fun H locs hI => ?_)
  refine lv_aload_n hx hb (dc tbX7_layOrders_1_k 13 rfl) rfl (lv_at hl 1 rfl) ?_
  refine gg7_25 hx hb hts hown hK hI hk0.1 q_t7_101 (dc tbX7_layOrders_1_k 14 rfl) ?_
  refine lv_iload_n hx hb (dc tbX7_layOrders_1_k 15 rfl) rfl (lv_at hl 2 rfl) ?_
  refine lv_dup2_11 hx hb (dc tbX7_layOrders_1_k 16 rfl) rfl rfl ?_
  obtain ⟨h26, hf⟩ := chk_s hf
  refine g_lald hx hb hK hI hk0.2.2.2.2.2.2.2.2.2.2.2.2.1 (okb_in h26) (dc tbX7_layOrders_1_k 17 rfl) ?_
  refine lv_iload_n hx hb (dc tbX7_layOrders_1_k 18 rfl) rfl (lv_at hl 0 rfl) ?_
  refine lv_if_eq (tgt := 108) hx hb (dc tbX7_layOrders_1_k 19 rfl) rfl (fun c27 => ?_) (fun c27 => ?_)
  · have hf := ite_t c27 hf
    refine lv_lconst (v := 0) hx hb (dc tbX7_layOrders_1_k 31 rfl) (by decide) ?_
    exact tX7_layOrders_b109 C hk0 hih5 hih30 x1 x2 x1 (rl M25 (k0 + 12) (x1).toNatClampNeg) (0 : Int64) M25 hf _ _ _ hI (lv_sub hl [1, 2, 3] rfl)
  · have hf := ite_f c27 hf
    refine lv_aload_n hx hb (dc tbX7_layOrders_1_k 20 rfl) rfl (lv_at hl 1 rfl) ?_
    refine gg7_25 hx hb hts hown hK hI hk0.1 q_t7_101 (dc tbX7_layOrders_1_k 21 rfl) ?_
    refine lv_iload_n hx hb (dc tbX7_layOrders_1_k 22 rfl) rfl (lv_at hl 2 rfl) ?_
    refine lv_iconst (v := 1) hx hb (dc tbX7_layOrders_1_k 23 rfl) ic_1 ?_
    refine lv_iload_n hx hb (dc tbX7_layOrders_1_k 24 rfl) rfl (lv_at hl 3 rfl) ?_
    refine lv_iconst (v := 2) hx hb (dc tbX7_layOrders_1_k 25 rfl) ic_2 ?_
    refine lv_idiv hx hb (dc tbX7_layOrders_1_k 26 rfl) (by decide) ?_
    refine lv_ishl hx hb (dc tbX7_layOrders_1_k 27 rfl) ?_
    refine lv_ior hx hb (dc tbX7_layOrders_1_k 28 rfl) ?_
    obtain ⟨h32, hf⟩ := chk_s hf
    refine g_lald hx hb hK hI hk0.2.2.2.2.2.2.2.2.2.2.2.2.1 (okb_in h32) (dc tbX7_layOrders_1_k 29 rfl) ?_
    refine lv_goto (tgt := 109) hx hb (dc tbX7_layOrders_1_k 30 rfl) rfl ?_
    exact tX7_layOrders_b109 C hk0 hih5 hih30 x1 x2 x1 (rl M25 (k0 + 12) (x1).toNatClampNeg) (rl M25 (k0 + 12) ((x1 ||| ((1 : Int32) <<< ((x2 / (2 : Int32)) &&& 31)))).toNatClampNeg) M25 hf _ _ _ hI (lv_sub hl [1, 2, 3] rfl)
def mX7_layOrders_b30 (k0 : Nat) (ih5 : Int32 → Mem → Option (Mem × Unit)) (ih30 : Int32 → Int32 → Mem → Option (Mem × Unit)) (x1 : Int32) (x2 : Int32) (M : Mem) : Option (Mem × Unit) := chk (okb (0 : Int32) 86) (ite2 (((2 : Int32) * (rd M (k0 + 1) ((0 : Int32)).toNatClampNeg)) ≤ x2) (mX7_layOrders_b117 k0 ih5 x1 M) (cap (mX7_isBehind k0 x1 M) (fun r16 => ite2 (r16 = 0) (mX7_layOrders_b117 k0 ih5 x1 M) (cal (mX7_reasonOf k0 (x2 / (2 : Int32)) (x2 - x2 / (2 : Int32) * (2 : Int32)) x1 M) (fun M21 r20 => ite2 (r20 = 0) (mX7_layOrders_b69 k0 ih5 ih30 x1 x2 (1 : Int32) M21) (mX7_layOrders_b69 k0 ih5 ih30 x1 x2 (0 : Int32) M21))))))
set_option maxHeartbeats 4000000 in
set_option maxRecDepth 100000 in
theorem tX7_layOrders_b30 {p : Program} {l : Launch} {e : Env} {s : State} {m : MethodId} {args : Array Value} {below : List Frame} {meth : Method} {c : Code} {G : GT} {kd : Nat → Nat × Nat} {ad : Nat → Nat} (C : Cx p s m args meth c cX7_layOrders 4 none RX7 G kd ad) {k0 : Nat} (hk0 : kModel kd k0) {MO : Mem} {vo : Unit} {ih5 : Int32 → Mem → Option (Mem × Unit)} {ih30 : Int32 → Int32 → Mem → Option (Mem × Unit)} (hih5 : ∀ (x1 : Int32) (M : Mem), ih5 x1 M = some (MO, vo) → At p l e (rmO 6 0 0) s m args below meth c 0 0 (MQ below (Qg G kd ad s.heap.size MO none) args s 0 0 (AS kd ad s.heap.size)) G kd ad 4 5 [(0, .ref (ad k0)), (1, .int x1)] [] M) (hih30 : ∀ (x1 : Int32) (x2 : Int32) (M : Mem), ih30 x1 x2 M = some (MO, vo) → At p l e (rmO 6 0 0) s m args below meth c 0 0 (MQ below (Qg G kd ad s.heap.size MO none) args s 0 0 (AS kd ad s.heap.size)) G kd ad 4 30 [(0, .ref (ad k0)), (1, .int x1), (2, .int x2)] [] M) : ∀ (x1 : Int32) (x2 : Int32) (M : Mem), mX7_layOrders_b30 k0 ih5 ih30 x1 x2 M = some (MO, vo) → At p l e (rmO 6 0 0) s m args below meth c 0 0 (MQ below (Qg G kd ad s.heap.size MO none) args s 0 0 (AS kd ad s.heap.size)) G kd ad 4 30 [(0, .ref (ad k0)), (1, .int x1), (2, .int x2)] [] M := by
  intro x1 x2 M hf H locs ls hI hl
  obtain ⟨hx, hb, hml, hr, hown, hts, hlk, hK, hap, hsx⟩ := id C
  unfold mX7_layOrders_b30 at hf
  refine lv_iload_n hx hb (dc tbX7_layOrders_0_k 18 rfl) rfl (lv_at hl 2 rfl) ?_
  refine lv_iconst (v := 2) hx hb (dc tbX7_layOrders_0_k 19 rfl) ic_2 ?_
  refine lv_aload_n hx hb (dc tbX7_layOrders_0_k 20 rfl) rfl (lv_at hl 0 rfl) ?_
  refine gg7_0 hx hb hts hown hK hI hk0.1 q_t7_76 (dc tbX7_layOrders_0_k 21 rfl) ?_
  refine lv_iconst (v := 0) hx hb (dc tbX7_layOrders_0_k 22 rfl) ic_0 ?_
  obtain ⟨h12, hf⟩ := chk_s hf
  refine g_iald hx hb hK hI hk0.2.1 (okb_in h12) (dc tbX7_layOrders_0_k 23 rfl) ?_
  refine lv_imul hx hb (dc tbX7_layOrders_0_k 24 rfl) ?_
  refine lv_icmp_ge (tgt := 117) hx hb (dc tbX7_layOrders_0_k 25 rfl) rfl (fun c13 => ?_) (fun c13 => ?_)
  · have hf := ite_t c13 hf
    exact tX7_layOrders_b117 C hk0 hih5 x1 M hf _ _ _ hI (lv_sub hl [0, 1] rfl)
  · have hf := ite_f c13 hf
    refine lv_aload_n hx hb (dc tbX7_layOrders_0_k 26 rfl) rfl (lv_at hl 0 rfl) ?_
    refine lv_iload_n hx hb (dc tbX7_layOrders_0_k 27 rfl) rfl (lv_at hl 1 rfl) ?_
    obtain ⟨r16, q15, hf⟩ := cap_s hf
    refine g_callVi hx hb hml hown hts hK hap hsx hI (tX7_isBehind l hk0 q15 H.size) cv_X7_isBehind q_t9_101 rfl rfl ⟨Nat.le_of_ble_eq_true rfl, Nat.le_of_ble_eq_true rfl⟩ hk0.1 (by simp) rfl rfl rfl hl.1 rfl (Nat.le_of_ble_eq_true rfl) (dc tbX7_layOrders_0_k 28 rfl) ⟨Nat.le_of_ble_eq_true rfl, Nat.le_of_ble_eq_true rfl⟩ (fun H locs hI => ?_)
    refine lv_if_eq (tgt := 117) hx hb (dc tbX7_layOrders_0_k 29 rfl) rfl (fun c18 => ?_) (fun c18 => ?_)
    · have hf := ite_t c18 hf
      exact tX7_layOrders_b117 C hk0 hih5 x1 M hf _ _ _ hI (lv_sub hl [0, 1] rfl)
    · have hf := ite_f c18 hf
      refine lv_aload_n hx hb (dc tbX7_layOrders_0_k 30 rfl) rfl (lv_at hl 0 rfl) ?_
      refine lv_iload_n hx hb (dc tbX7_layOrders_0_k 31 rfl) rfl (lv_at hl 2 rfl) ?_
      refine lv_iconst (v := 2) hx hb (dc tbX7_layOrders_0_k 32 rfl) ic_2 ?_
      refine lv_idiv hx hb (dc tbX7_layOrders_0_k 33 rfl) (by decide) ?_
      refine lv_iload_n hx hb (dc tbX7_layOrders_0_k 34 rfl) rfl (lv_at hl 2 rfl) ?_
      refine lv_iconst (v := 2) hx hb (dc tbX7_layOrders_0_k 35 rfl) ic_2 ?_
      refine lv_irem hx hb (dc tbX7_layOrders_0_k 36 rfl) (by decide) ?_
      refine lv_iload_n hx hb (dc tbX7_layOrders_0_k 37 rfl) rfl (lv_at hl 1 rfl) ?_
      obtain ⟨M21, r20, q19, hf⟩ := cal_s hf
      refine g_callVi hx hb hml hown hts hK hap hsx hI (tX7_reasonOf l hk0 q19 H.size) cv_X7_reasonOf q_t8_222 rfl rfl ⟨Nat.le_of_ble_eq_true rfl, Nat.le_of_ble_eq_true rfl⟩ hk0.1 (by simp) rfl rfl rfl hl.1 rfl (Nat.le_of_ble_eq_true rfl) (dc tbX7_layOrders_0_k 38 rfl) ⟨Nat.le_of_ble_eq_true rfl, Nat.le_of_ble_eq_true rfl⟩ (fun H locs hI => ?_)
      refine lv_if_ne (tgt := 68) hx hb (dc tbX7_layOrders_0_k 39 rfl) rfl (fun c22 => ?_) (fun c22 => ?_)
      · have hf := ite_f c22 hf
        refine lv_iconst (v := 0) hx hb (dc tbX7_layOrders_1_k 2 rfl) ic_0 ?_
        exact tX7_layOrders_b69 C hk0 hih5 hih30 x1 x2 (0 : Int32) M21 hf _ _ _ hI (lv_sub hl [0, 1, 2] rfl)
      · have hf := ite_t c22 hf
        refine lv_iconst (v := 1) hx hb (dc tbX7_layOrders_1_k 0 rfl) ic_1 ?_
        refine lv_goto (tgt := 69) hx hb (dc tbX7_layOrders_1_k 1 rfl) rfl ?_
        exact tX7_layOrders_b69 C hk0 hih5 hih30 x1 x2 (1 : Int32) M21 hf _ _ _ hI (lv_sub hl [0, 1, 2] rfl)
def mX7_layOrders_l30 (k0 : Nat) (ih5 : Int32 → Mem → Option (Mem × Unit)) : Nat → Int32 → Int32 → Mem → Option (Mem × Unit)
  | 0 => fun _ _ _ => none
  | n + 1 => mX7_layOrders_b30 k0 ih5 (mX7_layOrders_l30 k0 ih5 n)
theorem tX7_layOrders_l30 {p : Program} {l : Launch} {e : Env} {s : State} {m : MethodId} {args : Array Value} {below : List Frame} {meth : Method} {c : Code} {G : GT} {kd : Nat → Nat × Nat} {ad : Nat → Nat} (C : Cx p s m args meth c cX7_layOrders 4 none RX7 G kd ad) {k0 : Nat} (hk0 : kModel kd k0) {MO : Mem} {vo : Unit} {ih5 : Int32 → Mem → Option (Mem × Unit)} (hih5 : ∀ (x1 : Int32) (M : Mem), ih5 x1 M = some (MO, vo) → At p l e (rmO 6 0 0) s m args below meth c 0 0 (MQ below (Qg G kd ad s.heap.size MO none) args s 0 0 (AS kd ad s.heap.size)) G kd ad 4 5 [(0, .ref (ad k0)), (1, .int x1)] [] M) : ∀ (fuel : Nat) (x1 : Int32) (x2 : Int32) (M : Mem), mX7_layOrders_l30 k0 ih5 fuel x1 x2 M = some (MO, vo) → At p l e (rmO 6 0 0) s m args below meth c 0 0 (MQ below (Qg G kd ad s.heap.size MO none) args s 0 0 (AS kd ad s.heap.size)) G kd ad 4 30 [(0, .ref (ad k0)), (1, .int x1), (2, .int x2)] [] M := by
  intro fuel
  induction fuel with
  | zero => intro x1 x2 M hf; cases hf
  | succ n IH => exact tX7_layOrders_b30 C hk0 hih5 IH
def mX7_layOrders_b27 (k0 : Nat) (ih5 : Int32 → Mem → Option (Mem × Unit)) (x1 : Int32) (y1 : Int32) (y2 : Int64) (M : Mem) : Option (Mem × Unit) := chk (okb y1 256) (bnd (wl M (k0 + 12) (y1).toNatClampNeg y2) (fun M11 => mX7_layOrders_l30 k0 ih5 5000 x1 (0 : Int32) M11))
set_option maxHeartbeats 4000000 in
set_option maxRecDepth 100000 in
theorem tX7_layOrders_b27 {p : Program} {l : Launch} {e : Env} {s : State} {m : MethodId} {args : Array Value} {below : List Frame} {meth : Method} {c : Code} {G : GT} {kd : Nat → Nat × Nat} {ad : Nat → Nat} (C : Cx p s m args meth c cX7_layOrders 4 none RX7 G kd ad) {k0 : Nat} (hk0 : kModel kd k0) {MO : Mem} {vo : Unit} {ih5 : Int32 → Mem → Option (Mem × Unit)} (hih5 : ∀ (x1 : Int32) (M : Mem), ih5 x1 M = some (MO, vo) → At p l e (rmO 6 0 0) s m args below meth c 0 0 (MQ below (Qg G kd ad s.heap.size MO none) args s 0 0 (AS kd ad s.heap.size)) G kd ad 4 5 [(0, .ref (ad k0)), (1, .int x1)] [] M) : ∀ (x1 : Int32) (y1 : Int32) (y2 : Int64) (M : Mem), mX7_layOrders_b27 k0 ih5 x1 y1 y2 M = some (MO, vo) → At p l e (rmO 6 0 0) s m args below meth c 0 0 (MQ below (Qg G kd ad s.heap.size MO none) args s 0 0 (AS kd ad s.heap.size)) G kd ad 4 27 [(0, .ref (ad k0)), (1, .int x1)] [.long y2, .int y1, .ref (ad (k0 + 12))] M := by
  intro x1 y1 y2 M hf H locs ls hI hl
  obtain ⟨hx, hb, hml, hr, hown, hts, hlk, hK, hap, hsx⟩ := id C
  unfold mX7_layOrders_b27 at hf
  obtain ⟨h9, hf⟩ := chk_s hf
  obtain ⟨M11, e10, hf⟩ := bnd_s hf
  refine g_last hx hb hK hap hI hk0.2.2.2.2.2.2.2.2.2.2.2.2.1 (okb_in h9) (dc tbX7_layOrders_0_k 15 rfl) e10 (fun H locs hI => ?_)
  refine lv_iconst (v := 0) hx hb (dc tbX7_layOrders_0_k 16 rfl) ic_0 ?_
  refine lv_istore_n (lv' := [(2, .int (0 : Int32)), (0, .ref (ad k0)), (1, .int x1)]) hx hb (dc tbX7_layOrders_0_k 17 rfl) rfl hl (by decide) rfl (fun ls hl => ?_)
  exact tX7_layOrders_l30 C hk0 hih5 5000 x1 (0 : Int32) M11 hf _ _ _ hI (lv_sub hl [1, 2, 0] rfl)
def mX7_layOrders_b5 (k0 : Nat) (ih5 : Int32 → Mem → Option (Mem × Unit)) (x1 : Int32) (M : Mem) : Option (Mem × Unit) := ite2 (x1 < 0) (some (M, ())) (cap (mX7_full k0 M) (fun r6 => ite2 (x1 = r6) (mX7_layOrders_b27 k0 ih5 x1 x1 (1 : Int64) M) (mX7_layOrders_b27 k0 ih5 x1 x1 (0 : Int64) M)))
set_option maxHeartbeats 4000000 in
set_option maxRecDepth 100000 in
theorem tX7_layOrders_b5 {p : Program} {l : Launch} {e : Env} {s : State} {m : MethodId} {args : Array Value} {below : List Frame} {meth : Method} {c : Code} {G : GT} {kd : Nat → Nat × Nat} {ad : Nat → Nat} (C : Cx p s m args meth c cX7_layOrders 4 none RX7 G kd ad) {k0 : Nat} (hk0 : kModel kd k0) {MO : Mem} {vo : Unit} {ih5 : Int32 → Mem → Option (Mem × Unit)} (hih5 : ∀ (x1 : Int32) (M : Mem), ih5 x1 M = some (MO, vo) → At p l e (rmO 6 0 0) s m args below meth c 0 0 (MQ below (Qg G kd ad s.heap.size MO none) args s 0 0 (AS kd ad s.heap.size)) G kd ad 4 5 [(0, .ref (ad k0)), (1, .int x1)] [] M) : ∀ (x1 : Int32) (M : Mem), mX7_layOrders_b5 k0 ih5 x1 M = some (MO, vo) → At p l e (rmO 6 0 0) s m args below meth c 0 0 (MQ below (Qg G kd ad s.heap.size MO none) args s 0 0 (AS kd ad s.heap.size)) G kd ad 4 5 [(0, .ref (ad k0)), (1, .int x1)] [] M := by
  intro x1 M hf H locs ls hI hl
  obtain ⟨hx, hb, hml, hr, hown, hts, hlk, hK, hap, hsx⟩ := id C
  unfold mX7_layOrders_b5 at hf
  refine lv_iload_n hx hb (dc tbX7_layOrders_0_k 3 rfl) rfl (lv_at hl 1 rfl) ?_
  refine lv_if_lt (tgt := 123) hx hb (dc tbX7_layOrders_0_k 4 rfl) rfl (fun c4 => ?_) (fun c4 => ?_)
  · have hf := ite_t c4 hf
    cases hf
    exact g_vret hx hb hr hlk hI (dc tbX7_layOrders_1_k 38 rfl)
  · have hf := ite_f c4 hf
    refine lv_aload_n hx hb (dc tbX7_layOrders_0_k 5 rfl) rfl (lv_at hl 0 rfl) ?_
    refine gg7_25 hx hb hts hown hK hI hk0.1 q_t7_101 (dc tbX7_layOrders_0_k 6 rfl) ?_
    refine lv_iload_n hx hb (dc tbX7_layOrders_0_k 7 rfl) rfl (lv_at hl 1 rfl) ?_
    refine lv_iload_n hx hb (dc tbX7_layOrders_0_k 8 rfl) rfl (lv_at hl 1 rfl) ?_
    refine lv_aload_n hx hb (dc tbX7_layOrders_0_k 9 rfl) rfl (lv_at hl 0 rfl) ?_
    obtain ⟨r6, q5, hf⟩ := cap_s hf
    refine g_callVi hx hb hml hown hts hK hap hsx hI (tX7_full l hk0 q5 H.size) cv_X7_full q_t9_97 rfl rfl ⟨Nat.le_of_ble_eq_true rfl, Nat.le_of_ble_eq_true rfl⟩ hk0.1 (by simp) rfl rfl rfl hl.1 rfl (Nat.le_of_ble_eq_true rfl) (dc tbX7_layOrders_0_k 10 rfl) ⟨Nat.le_of_ble_eq_true rfl, Nat.le_of_ble_eq_true rfl⟩ (fun H locs hI => ?_)
    refine lv_icmp_ne (tgt := 26) hx hb (dc tbX7_layOrders_0_k 11 rfl) rfl (fun c8 => ?_) (fun c8 => ?_)
    · have hf := ite_f c8 hf
      refine lv_lconst (v := 0) hx hb (dc tbX7_layOrders_0_k 14 rfl) (by decide) ?_
      exact tX7_layOrders_b27 C hk0 hih5 x1 x1 (0 : Int64) M hf _ _ _ hI (lv_sub hl [0, 1] rfl)
    · have hf := ite_t c8 hf
      refine lv_lconst (v := 1) hx hb (dc tbX7_layOrders_0_k 12 rfl) (by decide) ?_
      refine lv_goto (tgt := 27) hx hb (dc tbX7_layOrders_0_k 13 rfl) rfl ?_
      exact tX7_layOrders_b27 C hk0 hih5 x1 x1 (1 : Int64) M hf _ _ _ hI (lv_sub hl [0, 1] rfl)
def mX7_layOrders_l5 (k0 : Nat) : Nat → Int32 → Mem → Option (Mem × Unit)
  | 0 => fun _ _ => none
  | n + 1 => mX7_layOrders_b5 k0 (mX7_layOrders_l5 k0 n)
theorem tX7_layOrders_l5 {p : Program} {l : Launch} {e : Env} {s : State} {m : MethodId} {args : Array Value} {below : List Frame} {meth : Method} {c : Code} {G : GT} {kd : Nat → Nat × Nat} {ad : Nat → Nat} (C : Cx p s m args meth c cX7_layOrders 4 none RX7 G kd ad) {k0 : Nat} (hk0 : kModel kd k0) {MO : Mem} {vo : Unit}   : ∀ (fuel : Nat) (x1 : Int32) (M : Mem), mX7_layOrders_l5 k0 fuel x1 M = some (MO, vo) → At p l e (rmO 6 0 0) s m args below meth c 0 0 (MQ below (Qg G kd ad s.heap.size MO none) args s 0 0 (AS kd ad s.heap.size)) G kd ad 4 5 [(0, .ref (ad k0)), (1, .int x1)] [] M := by
  intro fuel
  induction fuel with
  | zero => intro x1 M hf; cases hf
  | succ n IH => exact tX7_layOrders_b5 C hk0 IH
def mX7_layOrders (k0 : Nat) (M : Mem) : Option (Mem × Unit) := cap (mX7_full k0 M) (fun r2 => mX7_layOrders_l5 k0 5000 r2 M)
set_option maxHeartbeats 4000000 in
set_option maxRecDepth 100000 in
theorem tX7_layOrders (l : Launch) {G : GT} {kd : Nat → Nat × Nat} {ad : Nat → Nat} {k0 : Nat} (hk0 : kModel kd k0) {M : Mem} {MO : Mem} {vo : Unit} (hf : mX7_layOrders k0 M = some (MO, vo)) (n : Nat) : Met l yX7_layOrders (Cond.code yX7_layOrders cX7_layOrders 4 none :: WA) (rmO 6 0 0) (Pg G kd ad n [.ref (ad k0)] M) (Qg G kd ad n MO none) 0 0 (AS kd ad n) := by
  refine g_body (own := RX7) (by decide) rfl ?_ (Nat.le_of_ble_eq_true rfl)
  intro p e s m args below meth c C _ H locs ls hI hl
  obtain ⟨hx, hb, hml, hr, hown, hts, hlk, hK, hap, hsx⟩ := id C
  have hl : lv_has ls 4 [(0, .ref (ad k0))] := hl
  unfold mX7_layOrders at hf
  refine lv_aload_n hx hb (dc tbX7_layOrders_0_k 0 rfl) rfl (lv_at hl 0 rfl) ?_
  obtain ⟨r2, q1, hf⟩ := cap_s hf
  refine g_callVi hx hb hml hown hts hK hap hsx hI (tX7_full l hk0 q1 H.size) cv_X7_full q_t9_97 rfl rfl ⟨Nat.le_of_ble_eq_true rfl, Nat.le_of_ble_eq_true rfl⟩ hk0.1 (by simp) rfl rfl rfl hl.1 rfl (Nat.le_of_ble_eq_true rfl) (dc tbX7_layOrders_0_k 1 rfl) ⟨Nat.le_of_ble_eq_true rfl, Nat.le_of_ble_eq_true rfl⟩ (fun H locs hI => ?_)
  refine lv_istore_n (lv' := [(1, .int r2), (0, .ref (ad k0))]) hx hb (dc tbX7_layOrders_0_k 2 rfl) rfl hl (by decide) rfl (fun ls hl => ?_)
  exact tX7_layOrders_l5 C hk0 5000 r2 M hf _ _ _ hI (lv_sub hl [1, 0] rfl)
theorem cv_X7_layOrders : cvF RX7 yX7_layOrders cX7_layOrders 4 none 0 := ⟨q_t9_95, q_s6_6, q_t1_11, q_t9_96, by decide +kernel⟩
def mX7_gaugeLast (k0 : Nat) (x1 : Int32) (x2 : Int32) (M : Mem) : Option Int32 := chk (okb (((16 : Int32) * (x1 &&& (((1 : Int32) <<< ((x2 / (2 : Int32)) &&& 31)) ^^^ (-1 : Int32)))) + x2) 4096) (some (rd M (k0 + 11) ((((16 : Int32) * (x1 &&& (((1 : Int32) <<< ((x2 / (2 : Int32)) &&& 31)) ^^^ (-1 : Int32)))) + x2)).toNatClampNeg))
set_option maxHeartbeats 4000000 in
set_option maxRecDepth 100000 in
theorem tX7_gaugeLast (l : Launch) {G : GT} {kd : Nat → Nat × Nat} {ad : Nat → Nat} {k0 : Nat} (hk0 : kModel kd k0) {x1 : Int32} {x2 : Int32} {M : Mem} {vo : Int32} (hf : mX7_gaugeLast k0 x1 x2 M = some vo) (n : Nat) : Met l yX7_gaugeLast (Cond.code yX7_gaugeLast cX7_gaugeLast 3 (some .int) :: WA) (rmO 0 0 0) (Pg G kd ad n [.ref (ad k0), .int x1, .int x2] M) (Qg G kd ad n M (some (.int vo))) 0 0 (AS kd ad n) := by
  refine g_body (own := RX7) (by decide) rfl ?_ (Nat.le_of_ble_eq_true rfl)
  intro p e s m args below meth c C _ H locs ls hI hl
  obtain ⟨hx, hb, hml, hr, hown, hts, hlk, hK, hap, hsx⟩ := id C
  have hl : lv_has ls 3 [(0, .ref (ad k0)), (1, .int x1), (2, .int x2)] := hl
  unfold mX7_gaugeLast at hf
  refine lv_aload_n hx hb (dc tbX7_gaugeLast_k 0 rfl) rfl (lv_at hl 0 rfl) ?_
  refine gg7_24 hx hb hts hown hK hI hk0.1 q_t7_100 (dc tbX7_gaugeLast_k 1 rfl) ?_
  refine lv_bipush (v := 16) hx hb (dc tbX7_gaugeLast_k 2 rfl) bp_16 ?_
  refine lv_iload_n hx hb (dc tbX7_gaugeLast_k 3 rfl) rfl (lv_at hl 1 rfl) ?_
  refine lv_iconst (v := 1) hx hb (dc tbX7_gaugeLast_k 4 rfl) ic_1 ?_
  refine lv_iload_n hx hb (dc tbX7_gaugeLast_k 5 rfl) rfl (lv_at hl 2 rfl) ?_
  refine lv_iconst (v := 2) hx hb (dc tbX7_gaugeLast_k 6 rfl) ic_2 ?_
  refine lv_idiv hx hb (dc tbX7_gaugeLast_k 7 rfl) (by decide) ?_
  refine lv_ishl hx hb (dc tbX7_gaugeLast_k 8 rfl) ?_
  refine lv_iconst (v := -1) hx hb (dc tbX7_gaugeLast_k 9 rfl) ic_m1 ?_
  refine lv_ixor hx hb (dc tbX7_gaugeLast_k 10 rfl) ?_
  refine lv_iand hx hb (dc tbX7_gaugeLast_k 11 rfl) ?_
  refine lv_imul hx hb (dc tbX7_gaugeLast_k 12 rfl) ?_
  refine lv_iload_n hx hb (dc tbX7_gaugeLast_k 13 rfl) rfl (lv_at hl 2 rfl) ?_
  refine lv_iadd hx hb (dc tbX7_gaugeLast_k 14 rfl) ?_
  obtain ⟨h1, hf⟩ := chk_s hf
  refine g_iald hx hb hK hI hk0.2.2.2.2.2.2.2.2.2.2.2.1 (okb_in h1) (dc tbX7_gaugeLast_k 15 rfl) ?_
  cases hf
  exact g_iret hx hb hr hlk hI (dc tbX7_gaugeLast_k 16 rfl)
theorem cv_X7_gaugeLast : cvF RX7 yX7_gaugeLast cX7_gaugeLast 3 (some .int) 2 := ⟨q_t9_125, q_s6_12, q_t1_11, q_t9_126, by decide +kernel⟩
def mX7_layCost_b165 (k0 : Nat) (ih36 : Int32 → Int32 → Int32 → Int32 → Int32 → Mem → Option (Mem × Unit)) (x1 : Int32) (x2 : Int32) (x3 : Int32) (x4 : Int32) (x5 : Int32) (M : Mem) : Option (Mem × Unit) := bnd (x5 + (1 : Int32)) (fun x5_165 => ih36 x1 x2 x3 x4 x5_165 M)
set_option maxHeartbeats 4000000 in
set_option maxRecDepth 100000 in
theorem tX7_layCost_b165 {p : Program} {l : Launch} {e : Env} {s : State} {m : MethodId} {args : Array Value} {below : List Frame} {meth : Method} {c : Code} {G : GT} {kd : Nat → Nat × Nat} {ad : Nat → Nat} (C : Cx p s m args meth c cX7_layCost 9 none RX7 G kd ad) {k0 : Nat} (hk0 : kModel kd k0) {MO : Mem} {vo : Unit} {ih36 : Int32 → Int32 → Int32 → Int32 → Int32 → Mem → Option (Mem × Unit)} (hih36 : ∀ (x1 : Int32) (x2 : Int32) (x3 : Int32) (x4 : Int32) (x5 : Int32) (M : Mem), ih36 x1 x2 x3 x4 x5 M = some (MO, vo) → At p l e (rmO 1 0 0) s m args below meth c 0 0 (MQ below (Qg G kd ad s.heap.size MO none) args s 0 0 (AS kd ad s.heap.size)) G kd ad 9 36 [(0, .ref (ad k0)), (1, .int x1), (2, .int x2), (3, .int x3), (4, .int x4), (5, .int x5)] [] M) : ∀ (x1 : Int32) (x2 : Int32) (x3 : Int32) (x4 : Int32) (x5 : Int32) (M : Mem), mX7_layCost_b165 k0 ih36 x1 x2 x3 x4 x5 M = some (MO, vo) → At p l e (rmO 1 0 0) s m args below meth c 0 0 (MQ below (Qg G kd ad s.heap.size MO none) args s 0 0 (AS kd ad s.heap.size)) G kd ad 9 165 [(0, .ref (ad k0)), (1, .int x1), (2, .int x2), (3, .int x3), (4, .int x4), (5, .int x5)] [] M := by
  intro x1 x2 x3 x4 x5 M hf H locs ls hI hl
  obtain ⟨hx, hb, hml, hr, hown, hts, hlk, hK, hap, hsx⟩ := id C
  unfold mX7_layCost_b165 at hf
  obtain ⟨x5_165, e33, hf⟩ := bnd_s hf
  refine lv_iinc (v := x5_165) (lv' := [(5, .int x5_165), (0, .ref (ad k0)), (1, .int x1), (2, .int x2), (3, .int x3), (4, .int x4)]) hx hb (dc tbX7_layCost_2_k 18 rfl) hl (k := 5) rfl (ii_e e33 ic_1) (by decide) rfl (fun ls hl => ?_)
  refine lv_goto (tgt := 36) hx hb (dc tbX7_layCost_2_k 19 rfl) rfl ?_
  exact hih36 x1 x2 x3 x4 x5_165 M hf _ _ _ hI (lv_sub hl [1, 2, 3, 4, 5, 0] rfl)
def mX7_layCost_b117 (k0 : Nat) (ih36 : Int32 → Int32 → Int32 → Int32 → Int32 → Mem → Option (Mem × Unit)) (x1 : Int32) (x2 : Int32) (x3 : Int32) (x4 : Int32) (x5 : Int32) (x6 : Int32) (y0 : Int32) (M : Mem) : Option (Mem × Unit) := bnd ((((17 : Int32) * (x1 ||| ((1 : Int32) <<< (x6 &&& 31)))) + x5)) (fun x8_131 => chk (okb x8_131 4352) (bnd ((imin x3 (y0 + (rd M (k0 + 13) (x8_131).toNatClampNeg)))) (fun x3_147 => chk (okb x8_131 4352) (bnd ((imax x4 (y0 + (rd M (k0 + 14) (x8_131).toNatClampNeg)))) (fun x4_163 => mX7_layCost_b165 k0 ih36 x1 x2 x3_147 x4_163 x5 M)))))
set_option maxHeartbeats 4000000 in
set_option maxRecDepth 100000 in
theorem tX7_layCost_b117 {p : Program} {l : Launch} {e : Env} {s : State} {m : MethodId} {args : Array Value} {below : List Frame} {meth : Method} {c : Code} {G : GT} {kd : Nat → Nat × Nat} {ad : Nat → Nat} (C : Cx p s m args meth c cX7_layCost 9 none RX7 G kd ad) {k0 : Nat} (hk0 : kModel kd k0) {MO : Mem} {vo : Unit} {ih36 : Int32 → Int32 → Int32 → Int32 → Int32 → Mem → Option (Mem × Unit)} (hih36 : ∀ (x1 : Int32) (x2 : Int32) (x3 : Int32) (x4 : Int32) (x5 : Int32) (M : Mem), ih36 x1 x2 x3 x4 x5 M = some (MO, vo) → At p l e (rmO 1 0 0) s m args below meth c 0 0 (MQ below (Qg G kd ad s.heap.size MO none) args s 0 0 (AS kd ad s.heap.size)) G kd ad 9 36 [(0, .ref (ad k0)), (1, .int x1), (2, .int x2), (3, .int x3), (4, .int x4), (5, .int x5)] [] M) : ∀ (x1 : Int32) (x2 : Int32) (x3 : Int32) (x4 : Int32) (x5 : Int32) (x6 : Int32) (y0 : Int32) (M : Mem), mX7_layCost_b117 k0 ih36 x1 x2 x3 x4 x5 x6 y0 M = some (MO, vo) → At p l e (rmO 1 0 0) s m args below meth c 0 0 (MQ below (Qg G kd ad s.heap.size MO none) args s 0 0 (AS kd ad s.heap.size)) G kd ad 9 117 [(0, .ref (ad k0)), (1, .int x1), (2, .int x2), (3, .int x3), (4, .int x4), (5, .int x5), (6, .int x6)] [.int y0] M := by
  intro x1 x2 x3 x4 x5 x6 y0 M hf H locs ls hI hl
  obtain ⟨hx, hb, hml, hr, hown, hts, hlk, hK, hap, hsx⟩ := id C
  unfold mX7_layCost_b117 at hf
  refine lv_istore (lv' := [(7, .int y0), (0, .ref (ad k0)), (1, .int x1), (2, .int x2), (3, .int x3), (4, .int x4), (5, .int x5), (6, .int x6)]) hx hb (dc tbX7_layCost_1_k 29 rfl) hl (by decide) rfl (fun ls hl => ?_)
  refine lv_bipush (v := 17) hx hb (dc tbX7_layCost_1_k 30 rfl) bp_17 ?_
  refine lv_iload_n hx hb (dc tbX7_layCost_1_k 31 rfl) rfl (lv_at hl 2 rfl) ?_
  refine lv_iconst (v := 1) hx hb (dc tbX7_layCost_1_k 32 rfl) ic_1 ?_
  refine lv_iload hx hb (dc tbX7_layCost_1_k 33 rfl) (lv_at hl 7 rfl) ?_
  refine lv_ishl hx hb (dc tbX7_layCost_1_k 34 rfl) ?_
  refine lv_ior hx hb (dc tbX7_layCost_1_k 35 rfl) ?_
  refine lv_imul hx hb (dc tbX7_layCost_1_k 36 rfl) ?_
  refine lv_iload hx hb (dc tbX7_layCost_1_k 37 rfl) (lv_at hl 6 rfl) ?_
  refine lv_iadd hx hb (dc tbX7_layCost_1_k 38 rfl) ?_
  obtain ⟨x8_131, e28, hf⟩ := bnd_s hf
  refine lv_ei e28 ?_
  refine lv_istore (lv' := [(8, .int x8_131), (7, .int y0), (0, .ref (ad k0)), (1, .int x1), (2, .int x2), (3, .int x3), (4, .int x4), (5, .int x5), (6, .int x6)]) hx hb (dc tbX7_layCost_1_k 39 rfl) hl (by decide) rfl (fun ls hl => ?_)
  refine lv_iload_n hx hb (dc tbX7_layCost_2_k 0 rfl) rfl (lv_at hl 5 rfl) ?_
  refine lv_iload hx hb (dc tbX7_layCost_2_k 1 rfl) (lv_at hl 1 rfl) ?_
  refine lv_aload_n hx hb (dc tbX7_layCost_2_k 2 rfl) rfl (lv_at hl 2 rfl) ?_
  refine gg7_26 hx hb hts hown hK hI hk0.1 q_t7_102 (dc tbX7_layCost_2_k 3 rfl) ?_
  refine lv_iload hx hb (dc tbX7_layCost_2_k 4 rfl) (lv_at hl 0 rfl) ?_
  obtain ⟨h29, hf⟩ := chk_s hf
  refine g_iald hx hb hK hI hk0.2.2.2.2.2.2.2.2.2.2.2.2.2.1 (okb_in h29) (dc tbX7_layCost_2_k 5 rfl) ?_
  refine lv_iadd hx hb (dc tbX7_layCost_2_k 6 rfl) ?_
  refine va_mmin hx hb (hml.trans hl.1.symm) hown (hts _ q_t8_165) (hts _ q_t2_200) (hts _ q_t1_22) (hts _ q_t2_201) (Nat.le_of_ble_eq_true rfl) (Nat.le_of_ble_eq_true rfl) (Nat.le_of_ble_eq_true rfl) (Nat.le_of_ble_eq_true rfl) (dc tbX7_layCost_2_k 7 rfl) ?_
  refine lv_et (show (if _ then _ else _) = (imin x3 (y0 + (rd M (k0 + 13) (x8_131).toNatClampNeg))) from rfl) ?_
  obtain ⟨x3_147, e30, hf⟩ := bnd_s hf
  refine lv_ei e30 ?_
  refine lv_istore_n (lv' := [(3, .int x3_147), (8, .int x8_131), (7, .int y0), (0, .ref (ad k0)), (1, .int x1), (2, .int x2), (4, .int x4), (5, .int x5), (6, .int x6)]) hx hb (dc tbX7_layCost_2_k 8 rfl) rfl hl (by decide) rfl (fun ls hl => ?_)
  refine lv_iload hx hb (dc tbX7_layCost_2_k 9 rfl) (lv_at hl 6 rfl) ?_
  refine lv_iload hx hb (dc tbX7_layCost_2_k 10 rfl) (lv_at hl 2 rfl) ?_
  refine lv_aload_n hx hb (dc tbX7_layCost_2_k 11 rfl) rfl (lv_at hl 3 rfl) ?_
  refine gg7_27 hx hb hts hown hK hI hk0.1 q_t7_103 (dc tbX7_layCost_2_k 12 rfl) ?_
  refine lv_iload hx hb (dc tbX7_layCost_2_k 13 rfl) (lv_at hl 1 rfl) ?_
  obtain ⟨h31, hf⟩ := chk_s hf
  refine g_iald hx hb hK hI hk0.2.2.2.2.2.2.2.2.2.2.2.2.2.2.1 (okb_in h31) (dc tbX7_layCost_2_k 14 rfl) ?_
  refine lv_iadd hx hb (dc tbX7_layCost_2_k 15 rfl) ?_
  refine va_mmax hx hb (hml.trans hl.1.symm) hown (hts _ q_t8_166) (hts _ q_t2_203) (hts _ q_t1_22) (hts _ q_t2_204) (Nat.le_of_ble_eq_true rfl) (Nat.le_of_ble_eq_true rfl) (Nat.le_of_ble_eq_true rfl) (Nat.le_of_ble_eq_true rfl) (dc tbX7_layCost_2_k 16 rfl) ?_
  refine lv_et (show (if _ then _ else _) = (imax x4 (y0 + (rd M (k0 + 14) (x8_131).toNatClampNeg))) from rfl) ?_
  obtain ⟨x4_163, e32, hf⟩ := bnd_s hf
  refine lv_ei e32 ?_
  refine lv_istore (lv' := [(4, .int x4_163), (3, .int x3_147), (8, .int x8_131), (7, .int y0), (0, .ref (ad k0)), (1, .int x1), (2, .int x2), (5, .int x5), (6, .int x6)]) hx hb (dc tbX7_layCost_2_k 17 rfl) hl (by decide) rfl (fun ls hl => ?_)
  exact tX7_layCost_b165 C hk0 hih36 x1 x2 x3_147 x4_163 x5 M hf _ _ _ hI (lv_sub hl [4, 5, 6, 1, 0, 7] rfl)
def mX7_layCost_b36 (k0 : Nat) (ih36 : Int32 → Int32 → Int32 → Int32 → Int32 → Mem → Option (Mem × Unit)) (x1 : Int32) (x2 : Int32) (x3 : Int32) (x4 : Int32) (x5 : Int32) (M : Mem) : Option (Mem × Unit) := chk (okb (0 : Int32) 86) (ite2 (((2 : Int32) * (rd M (k0 + 1) ((0 : Int32)).toNatClampNeg)) ≤ x5) (chk (okb (((17 : Int32) * x1) + x2) 4352) (bnd (wr M (k0 + 13) ((((17 : Int32) * x1) + x2)).toNatClampNeg x3) (fun M13 => chk (okb (((17 : Int32) * x1) + x2) 4352) (bnd (wr M13 (k0 + 14) ((((17 : Int32) * x1) + x2)).toNatClampNeg x4) (fun M16 => some (M16, ())))))) (chk (okb (((16 : Int32) * x1) + x5) 4096) (ite2 ((rd M (k0 + 10) ((((16 : Int32) * x1) + x5)).toNatClampNeg) = 0) (mX7_layCost_b165 k0 ih36 x1 x2 x3 x4 x5 M) (bnd ((x5 / (2 : Int32))) (fun x6_71 => ite2 (x2 = (16 : Int32)) (mX7_layCost_b117 k0 ih36 x1 x2 x3 x4 x5 x6_71 (0 : Int32) M) (cap (mX7_gaugeLast k0 x1 x2 M) (fun r22 => chk (okb (((16 : Int32) * x1) + x5) 4096) (cap (mX7_costBehind k0 (x2 / (2 : Int32)) (x2 - x2 / (2 : Int32) * (2 : Int32)) r22 x6_71 (x5 - x5 / (2 : Int32) * (2 : Int32)) (rd M (k0 + 11) ((((16 : Int32) * x1) + x5)).toNatClampNeg) M) (fun r26 => mX7_layCost_b117 k0 ih36 x1 x2 x3 x4 x5 x6_71 r26 M)))))))))
set_option maxHeartbeats 4000000 in
set_option maxRecDepth 100000 in
theorem tX7_layCost_b36 {p : Program} {l : Launch} {e : Env} {s : State} {m : MethodId} {args : Array Value} {below : List Frame} {meth : Method} {c : Code} {G : GT} {kd : Nat → Nat × Nat} {ad : Nat → Nat} (C : Cx p s m args meth c cX7_layCost 9 none RX7 G kd ad) {k0 : Nat} (hk0 : kModel kd k0) {MO : Mem} {vo : Unit} {ih36 : Int32 → Int32 → Int32 → Int32 → Int32 → Mem → Option (Mem × Unit)} (hih36 : ∀ (x1 : Int32) (x2 : Int32) (x3 : Int32) (x4 : Int32) (x5 : Int32) (M : Mem), ih36 x1 x2 x3 x4 x5 M = some (MO, vo) → At p l e (rmO 1 0 0) s m args below meth c 0 0 (MQ below (Qg G kd ad s.heap.size MO none) args s 0 0 (AS kd ad s.heap.size)) G kd ad 9 36 [(0, .ref (ad k0)), (1, .int x1), (2, .int x2), (3, .int x3), (4, .int x4), (5, .int x5)] [] M) : ∀ (x1 : Int32) (x2 : Int32) (x3 : Int32) (x4 : Int32) (x5 : Int32) (M : Mem), mX7_layCost_b36 k0 ih36 x1 x2 x3 x4 x5 M = some (MO, vo) → At p l e (rmO 1 0 0) s m args below meth c 0 0 (MQ below (Qg G kd ad s.heap.size MO none) args s 0 0 (AS kd ad s.heap.size)) G kd ad 9 36 [(0, .ref (ad k0)), (1, .int x1), (2, .int x2), (3, .int x3), (4, .int x4), (5, .int x5)] [] M := by
  intro x1 x2 x3 x4 x5 M hf H locs ls hI hl
  obtain ⟨hx, hb, hml, hr, hown, hts, hlk, hK, hap, hsx⟩ := id C
  unfold mX7_layCost_b36 at hf
  refine lv_iload hx hb (dc tbX7_layCost_0_k 18 rfl) (lv_at hl 5 rfl) ?_
  refine lv_iconst (v := 2) hx hb (dc tbX7_layCost_0_k 19 rfl) ic_2 ?_
  refine lv_aload_n hx hb (dc tbX7_layCost_0_k 20 rfl) rfl (lv_at hl 0 rfl) ?_
  refine gg7_0 hx hb hts hown hK hI hk0.1 q_t7_76 (dc tbX7_layCost_0_k 21 rfl) ?_
  refine lv_iconst (v := 0) hx hb (dc tbX7_layCost_0_k 22 rfl) ic_0 ?_
  obtain ⟨h9, hf⟩ := chk_s hf
  refine g_iald hx hb hK hI hk0.2.1 (okb_in h9) (dc tbX7_layCost_0_k 23 rfl) ?_
  refine lv_imul hx hb (dc tbX7_layCost_0_k 24 rfl) ?_
  refine lv_icmp_ge (tgt := 171) hx hb (dc tbX7_layCost_0_k 25 rfl) rfl (fun c10 => ?_) (fun c10 => ?_)
  · have hf := ite_t c10 hf
    refine lv_aload_n hx hb (dc tbX7_layCost_2_k 20 rfl) rfl (lv_at hl 0 rfl) ?_
    refine gg7_26 hx hb hts hown hK hI hk0.1 q_t7_102 (dc tbX7_layCost_2_k 21 rfl) ?_
    refine lv_bipush (v := 17) hx hb (dc tbX7_layCost_2_k 22 rfl) bp_17 ?_
    refine lv_iload_n hx hb (dc tbX7_layCost_2_k 23 rfl) rfl (lv_at hl 1 rfl) ?_
    refine lv_imul hx hb (dc tbX7_layCost_2_k 24 rfl) ?_
    refine lv_iload_n hx hb (dc tbX7_layCost_2_k 25 rfl) rfl (lv_at hl 2 rfl) ?_
    refine lv_iadd hx hb (dc tbX7_layCost_2_k 26 rfl) ?_
    refine lv_iload_n hx hb (dc tbX7_layCost_2_k 27 rfl) rfl (lv_at hl 3 rfl) ?_
    obtain ⟨h11, hf⟩ := chk_s hf
    obtain ⟨M13, e12, hf⟩ := bnd_s hf
    refine g_iast hx hb hK hap hI hk0.2.2.2.2.2.2.2.2.2.2.2.2.2.1 (okb_in h11) (dc tbX7_layCost_2_k 28 rfl) e12 (fun H locs hI => ?_)
    refine lv_aload_n hx hb (dc tbX7_layCost_2_k 29 rfl) rfl (lv_at hl 0 rfl) ?_
    refine gg7_27 hx hb hts hown hK hI hk0.1 q_t7_103 (dc tbX7_layCost_2_k 30 rfl) ?_
    refine lv_bipush (v := 17) hx hb (dc tbX7_layCost_2_k 31 rfl) bp_17 ?_
    refine lv_iload_n hx hb (dc tbX7_layCost_2_k 32 rfl) rfl (lv_at hl 1 rfl) ?_
    refine lv_imul hx hb (dc tbX7_layCost_2_k 33 rfl) ?_
    refine lv_iload_n hx hb (dc tbX7_layCost_2_k 34 rfl) rfl (lv_at hl 2 rfl) ?_
    refine lv_iadd hx hb (dc tbX7_layCost_2_k 35 rfl) ?_
    refine lv_iload hx hb (dc tbX7_layCost_2_k 36 rfl) (lv_at hl 4 rfl) ?_
    obtain ⟨h14, hf⟩ := chk_s hf
    obtain ⟨M16, e15, hf⟩ := bnd_s hf
    refine g_iast hx hb hK hap hI hk0.2.2.2.2.2.2.2.2.2.2.2.2.2.2.1 (okb_in h14) (dc tbX7_layCost_2_k 37 rfl) e15 (fun H locs hI => ?_)
    cases hf
    exact g_vret hx hb hr hlk hI (dc tbX7_layCost_2_k 38 rfl)
  · have hf := ite_f c10 hf
    refine lv_aload_n hx hb (dc tbX7_layCost_0_k 26 rfl) rfl (lv_at hl 0 rfl) ?_
    refine gg7_23 hx hb hts hown hK hI hk0.1 q_t7_99 (dc tbX7_layCost_0_k 27 rfl) ?_
    refine lv_bipush (v := 16) hx hb (dc tbX7_layCost_0_k 28 rfl) bp_16 ?_
    refine lv_iload_n hx hb (dc tbX7_layCost_0_k 29 rfl) rfl (lv_at hl 1 rfl) ?_
    refine lv_imul hx hb (dc tbX7_layCost_0_k 30 rfl) ?_
    refine lv_iload hx hb (dc tbX7_layCost_0_k 31 rfl) (lv_at hl 5 rfl) ?_
    refine lv_iadd hx hb (dc tbX7_layCost_0_k 32 rfl) ?_
    obtain ⟨h17, hf⟩ := chk_s hf
    refine g_zald hx hb hK hI hk0.2.2.2.2.2.2.2.2.2.2.1 (okb_in h17) (dc tbX7_layCost_0_k 33 rfl) ?_
    refine lv_if_ne (tgt := 67) hx hb (dc tbX7_layCost_0_k 34 rfl) rfl (fun c18 => ?_) (fun c18 => ?_)
    · have hf := ite_f c18 hf
      refine lv_iload hx hb (dc tbX7_layCost_0_k 36 rfl) (lv_at hl 5 rfl) ?_
      refine lv_iconst (v := 2) hx hb (dc tbX7_layCost_0_k 37 rfl) ic_2 ?_
      refine lv_idiv hx hb (dc tbX7_layCost_0_k 38 rfl) (by decide) ?_
      obtain ⟨x6_71, e19, hf⟩ := bnd_s hf
      refine lv_ei e19 ?_
      refine lv_istore (lv' := [(6, .int x6_71), (0, .ref (ad k0)), (1, .int x1), (2, .int x2), (3, .int x3), (4, .int x4), (5, .int x5)]) hx hb (dc tbX7_layCost_0_k 39 rfl) hl (by decide) rfl (fun ls hl => ?_)
      refine lv_iload_n hx hb (dc tbX7_layCost_1_k 0 rfl) rfl (lv_at hl 3 rfl) ?_
      refine lv_bipush (v := 16) hx hb (dc tbX7_layCost_1_k 1 rfl) bp_16 ?_
      refine lv_icmp_ne (tgt := 83) hx hb (dc tbX7_layCost_1_k 2 rfl) rfl (fun c20 => ?_) (fun c20 => ?_)
      · have hf := ite_f c20 hf
        refine lv_aload_n hx hb (dc tbX7_layCost_1_k 5 rfl) rfl (lv_at hl 1 rfl) ?_
        refine lv_iload_n hx hb (dc tbX7_layCost_1_k 6 rfl) rfl (lv_at hl 3 rfl) ?_
        refine lv_iconst (v := 2) hx hb (dc tbX7_layCost_1_k 7 rfl) ic_2 ?_
        refine lv_idiv hx hb (dc tbX7_layCost_1_k 8 rfl) (by decide) ?_
        refine lv_iload_n hx hb (dc tbX7_layCost_1_k 9 rfl) rfl (lv_at hl 3 rfl) ?_
        refine lv_iconst (v := 2) hx hb (dc tbX7_layCost_1_k 10 rfl) ic_2 ?_
        refine lv_irem hx hb (dc tbX7_layCost_1_k 11 rfl) (by decide) ?_
        refine lv_aload_n hx hb (dc tbX7_layCost_1_k 12 rfl) rfl (lv_at hl 1 rfl) ?_
        refine lv_iload_n hx hb (dc tbX7_layCost_1_k 13 rfl) rfl (lv_at hl 2 rfl) ?_
        refine lv_iload_n hx hb (dc tbX7_layCost_1_k 14 rfl) rfl (lv_at hl 3 rfl) ?_
        obtain ⟨r22, q21, hf⟩ := cap_s hf
        refine g_callVi hx hb hml hown hts hK hap hsx hI (tX7_gaugeLast l hk0 q21 H.size) cv_X7_gaugeLast q_t9_123 rfl rfl ⟨Nat.le_of_ble_eq_true rfl, Nat.le_of_ble_eq_true rfl⟩ hk0.1 (by simp) rfl rfl rfl hl.1 rfl (Nat.le_of_ble_eq_true rfl) (dc tbX7_layCost_1_k 15 rfl) ⟨Nat.le_of_ble_eq_true rfl, Nat.le_of_ble_eq_true rfl⟩ (fun H locs hI => ?_)
        refine lv_iload hx hb (dc tbX7_layCost_1_k 16 rfl) (lv_at hl 0 rfl) ?_
        refine lv_iload hx hb (dc tbX7_layCost_1_k 17 rfl) (lv_at hl 6 rfl) ?_
        refine lv_iconst (v := 2) hx hb (dc tbX7_layCost_1_k 18 rfl) ic_2 ?_
        refine lv_irem hx hb (dc tbX7_layCost_1_k 19 rfl) (by decide) ?_
        refine lv_aload_n hx hb (dc tbX7_layCost_1_k 20 rfl) rfl (lv_at hl 1 rfl) ?_
        refine gg7_24 hx hb hts hown hK hI hk0.1 q_t7_100 (dc tbX7_layCost_1_k 21 rfl) ?_
        refine lv_bipush (v := 16) hx hb (dc tbX7_layCost_1_k 22 rfl) bp_16 ?_
        refine lv_iload_n hx hb (dc tbX7_layCost_1_k 23 rfl) rfl (lv_at hl 2 rfl) ?_
        refine lv_imul hx hb (dc tbX7_layCost_1_k 24 rfl) ?_
        refine lv_iload hx hb (dc tbX7_layCost_1_k 25 rfl) (lv_at hl 6 rfl) ?_
        refine lv_iadd hx hb (dc tbX7_layCost_1_k 26 rfl) ?_
        obtain ⟨h24, hf⟩ := chk_s hf
        refine g_iald hx hb hK hI hk0.2.2.2.2.2.2.2.2.2.2.2.1 (okb_in h24) (dc tbX7_layCost_1_k 27 rfl) ?_
        obtain ⟨r26, q25, hf⟩ := cap_s hf
        refine g_callVi hx hb hml hown hts hK hap hsx hI (tX7_costBehind l hk0 q25 H.size) cv_X7_costBehind q_t9_85 rfl rfl ⟨Nat.le_of_ble_eq_true rfl, Nat.le_of_ble_eq_true rfl⟩ hk0.1 (by simp) rfl rfl rfl hl.1 rfl (Nat.le_of_ble_eq_true rfl) (dc tbX7_layCost_1_k 28 rfl) ⟨Nat.le_of_ble_eq_true rfl, Nat.le_of_ble_eq_true rfl⟩ (fun H locs hI => ?_)
        exact tX7_layCost_b117 C hk0 hih36 x1 x2 x3 x4 x5 x6_71 r26 M hf _ _ _ hI (lv_sub hl [1, 2, 3, 4, 5, 6, 0] rfl)
      · have hf := ite_t c20 hf
        refine lv_iconst (v := 0) hx hb (dc tbX7_layCost_1_k 3 rfl) ic_0 ?_
        refine lv_goto (tgt := 117) hx hb (dc tbX7_layCost_1_k 4 rfl) rfl ?_
        exact tX7_layCost_b117 C hk0 hih36 x1 x2 x3 x4 x5 x6_71 (0 : Int32) M hf _ _ _ hI (lv_sub hl [1, 2, 3, 4, 5, 6, 0] rfl)
    · have hf := ite_t c18 hf
      refine lv_goto (tgt := 165) hx hb (dc tbX7_layCost_0_k 35 rfl) rfl ?_
      exact tX7_layCost_b165 C hk0 hih36 x1 x2 x3 x4 x5 M hf _ _ _ hI (lv_sub hl [0, 1, 2, 3, 4, 5] rfl)
def mX7_layCost_l36 (k0 : Nat) : Nat → Int32 → Int32 → Int32 → Int32 → Int32 → Mem → Option (Mem × Unit)
  | 0 => fun _ _ _ _ _ _ => none
  | n + 1 => mX7_layCost_b36 k0 (mX7_layCost_l36 k0 n)
theorem tX7_layCost_l36 {p : Program} {l : Launch} {e : Env} {s : State} {m : MethodId} {args : Array Value} {below : List Frame} {meth : Method} {c : Code} {G : GT} {kd : Nat → Nat × Nat} {ad : Nat → Nat} (C : Cx p s m args meth c cX7_layCost 9 none RX7 G kd ad) {k0 : Nat} (hk0 : kModel kd k0) {MO : Mem} {vo : Unit}   : ∀ (fuel : Nat) (x1 : Int32) (x2 : Int32) (x3 : Int32) (x4 : Int32) (x5 : Int32) (M : Mem), mX7_layCost_l36 k0 fuel x1 x2 x3 x4 x5 M = some (MO, vo) → At p l e (rmO 1 0 0) s m args below meth c 0 0 (MQ below (Qg G kd ad s.heap.size MO none) args s 0 0 (AS kd ad s.heap.size)) G kd ad 9 36 [(0, .ref (ad k0)), (1, .int x1), (2, .int x2), (3, .int x3), (4, .int x4), (5, .int x5)] [] M := by
  intro fuel
  induction fuel with
  | zero => intro x1 x2 x3 x4 x5 M hf; cases hf
  | succ n IH => exact tX7_layCost_b36 C hk0 IH
def mX7_layCost_b31 (k0 : Nat) (x1 : Int32) (x2 : Int32) (x3 : Int32) (y0 : Int32) (M : Mem) : Option (Mem × Unit) := mX7_layCost_l36 k0 5000 x1 x2 x3 y0 (0 : Int32) M
set_option maxHeartbeats 4000000 in
set_option maxRecDepth 100000 in
theorem tX7_layCost_b31 {p : Program} {l : Launch} {e : Env} {s : State} {m : MethodId} {args : Array Value} {below : List Frame} {meth : Method} {c : Code} {G : GT} {kd : Nat → Nat × Nat} {ad : Nat → Nat} (C : Cx p s m args meth c cX7_layCost 9 none RX7 G kd ad) {k0 : Nat} (hk0 : kModel kd k0) {MO : Mem} {vo : Unit}   : ∀ (x1 : Int32) (x2 : Int32) (x3 : Int32) (y0 : Int32) (M : Mem), mX7_layCost_b31 k0 x1 x2 x3 y0 M = some (MO, vo) → At p l e (rmO 1 0 0) s m args below meth c 0 0 (MQ below (Qg G kd ad s.heap.size MO none) args s 0 0 (AS kd ad s.heap.size)) G kd ad 9 31 [(0, .ref (ad k0)), (1, .int x1), (2, .int x2), (3, .int x3)] [.int y0] M := by
  intro x1 x2 x3 y0 M hf H locs ls hI hl
  obtain ⟨hx, hb, hml, hr, hown, hts, hlk, hK, hap, hsx⟩ := id C
  unfold mX7_layCost_b31 at hf
  refine lv_istore (lv' := [(4, .int y0), (0, .ref (ad k0)), (1, .int x1), (2, .int x2), (3, .int x3)]) hx hb (dc tbX7_layCost_0_k 15 rfl) hl (by decide) rfl (fun ls hl => ?_)
  refine lv_iconst (v := 0) hx hb (dc tbX7_layCost_0_k 16 rfl) ic_0 ?_
  refine lv_istore (lv' := [(5, .int (0 : Int32)), (4, .int y0), (0, .ref (ad k0)), (1, .int x1), (2, .int x2), (3, .int x3)]) hx hb (dc tbX7_layCost_0_k 17 rfl) hl (by decide) rfl (fun ls hl => ?_)
  exact tX7_layCost_l36 C hk0 5000 x1 x2 x3 y0 (0 : Int32) M hf _ _ _ hI (lv_sub hl [2, 3, 4, 5, 1, 0] rfl)
def mX7_layCost_b15 (k0 : Nat) (x1 : Int32) (x2 : Int32) (y0 : Int32) (M : Mem) : Option (Mem × Unit) := cap (mX7_full k0 M) (fun r6 => ite2 (x1 = r6) (mX7_layCost_b31 k0 x1 x2 y0 (0 : Int32) M) (mX7_layCost_b31 k0 x1 x2 y0 (-1000000 : Int32) M))
set_option maxHeartbeats 4000000 in
set_option maxRecDepth 100000 in
theorem tX7_layCost_b15 {p : Program} {l : Launch} {e : Env} {s : State} {m : MethodId} {args : Array Value} {below : List Frame} {meth : Method} {c : Code} {G : GT} {kd : Nat → Nat × Nat} {ad : Nat → Nat} (C : Cx p s m args meth c cX7_layCost 9 none RX7 G kd ad) {k0 : Nat} (hk0 : kModel kd k0) {MO : Mem} {vo : Unit}   : ∀ (x1 : Int32) (x2 : Int32) (y0 : Int32) (M : Mem), mX7_layCost_b15 k0 x1 x2 y0 M = some (MO, vo) → At p l e (rmO 1 0 0) s m args below meth c 0 0 (MQ below (Qg G kd ad s.heap.size MO none) args s 0 0 (AS kd ad s.heap.size)) G kd ad 9 15 [(0, .ref (ad k0)), (1, .int x1), (2, .int x2)] [.int y0] M := by
  intro x1 x2 y0 M hf H locs ls hI hl
  obtain ⟨hx, hb, hml, hr, hown, hts, hlk, hK, hap, hsx⟩ := id C
  unfold mX7_layCost_b15 at hf
  refine lv_istore_n (lv' := [(3, .int y0), (0, .ref (ad k0)), (1, .int x1), (2, .int x2)]) hx hb (dc tbX7_layCost_0_k 7 rfl) rfl hl (by decide) rfl (fun ls hl => ?_)
  refine lv_iload_n hx hb (dc tbX7_layCost_0_k 8 rfl) rfl (lv_at hl 2 rfl) ?_
  refine lv_aload_n hx hb (dc tbX7_layCost_0_k 9 rfl) rfl (lv_at hl 1 rfl) ?_
  obtain ⟨r6, q5, hf⟩ := cap_s hf
  refine g_callVi hx hb hml hown hts hK hap hsx hI (tX7_full l hk0 q5 H.size) cv_X7_full q_t9_97 rfl rfl ⟨Nat.le_of_ble_eq_true rfl, Nat.le_of_ble_eq_true rfl⟩ hk0.1 (by simp) rfl rfl rfl hl.1 rfl (Nat.le_of_ble_eq_true rfl) (dc tbX7_layCost_0_k 10 rfl) ⟨Nat.le_of_ble_eq_true rfl, Nat.le_of_ble_eq_true rfl⟩ (fun H locs hI => ?_)
  refine lv_icmp_ne (tgt := 28) hx hb (dc tbX7_layCost_0_k 11 rfl) rfl (fun c8 => ?_) (fun c8 => ?_)
  · have hf := ite_f c8 hf
    refine lv_ldcw hx hb hown (hts _ q_t9_122) (dc tbX7_layCost_0_k 14 rfl) ?_
    exact tX7_layCost_b31 C hk0 x1 x2 y0 (-1000000 : Int32) M hf _ _ _ hI (lv_sub hl [1, 2, 3, 0] rfl)
  · have hf := ite_t c8 hf
    refine lv_iconst (v := 0) hx hb (dc tbX7_layCost_0_k 12 rfl) ic_0 ?_
    refine lv_goto (tgt := 31) hx hb (dc tbX7_layCost_0_k 13 rfl) rfl ?_
    exact tX7_layCost_b31 C hk0 x1 x2 y0 (0 : Int32) M hf _ _ _ hI (lv_sub hl [1, 2, 3, 0] rfl)
def mX7_layCost (k0 : Nat) (x1 : Int32) (x2 : Int32) (M : Mem) : Option (Mem × Unit) := cap (mX7_full k0 M) (fun r2 => ite2 (x1 = r2) (mX7_layCost_b15 k0 x1 x2 (0 : Int32) M) (mX7_layCost_b15 k0 x1 x2 (1000000 : Int32) M))
set_option maxHeartbeats 4000000 in
set_option maxRecDepth 100000 in
theorem tX7_layCost (l : Launch) {G : GT} {kd : Nat → Nat × Nat} {ad : Nat → Nat} {k0 : Nat} (hk0 : kModel kd k0) {x1 : Int32} {x2 : Int32} {M : Mem} {MO : Mem} {vo : Unit} (hf : mX7_layCost k0 x1 x2 M = some (MO, vo)) (n : Nat) : Met l yX7_layCost (Cond.code yX7_layCost cX7_layCost 9 none :: WA) (rmO 1 0 0) (Pg G kd ad n [.ref (ad k0), .int x1, .int x2] M) (Qg G kd ad n MO none) 0 0 (AS kd ad n) := by
  refine g_body (own := RX7) (by decide) rfl ?_ (Nat.le_of_ble_eq_true rfl)
  intro p e s m args below meth c C _ H locs ls hI hl
  obtain ⟨hx, hb, hml, hr, hown, hts, hlk, hK, hap, hsx⟩ := id C
  have hl : lv_has ls 9 [(0, .ref (ad k0)), (1, .int x1), (2, .int x2)] := hl
  unfold mX7_layCost at hf
  refine lv_iload_n hx hb (dc tbX7_layCost_0_k 0 rfl) rfl (lv_at hl 1 rfl) ?_
  refine lv_aload_n hx hb (dc tbX7_layCost_0_k 1 rfl) rfl (lv_at hl 0 rfl) ?_
  obtain ⟨r2, q1, hf⟩ := cap_s hf
  refine g_callVi hx hb hml hown hts hK hap hsx hI (tX7_full l hk0 q1 H.size) cv_X7_full q_t9_97 rfl rfl ⟨Nat.le_of_ble_eq_true rfl, Nat.le_of_ble_eq_true rfl⟩ hk0.1 (by simp) rfl rfl rfl hl.1 rfl (Nat.le_of_ble_eq_true rfl) (dc tbX7_layCost_0_k 2 rfl) ⟨Nat.le_of_ble_eq_true rfl, Nat.le_of_ble_eq_true rfl⟩ (fun H locs hI => ?_)
  refine lv_icmp_ne (tgt := 12) hx hb (dc tbX7_layCost_0_k 3 rfl) rfl (fun c4 => ?_) (fun c4 => ?_)
  · have hf := ite_f c4 hf
    refine lv_ldcw hx hb hown (hts _ q_t9_121) (dc tbX7_layCost_0_k 6 rfl) ?_
    exact tX7_layCost_b15 C hk0 x1 x2 (1000000 : Int32) M hf _ _ _ hI (lv_sub hl [0, 1, 2] rfl)
  · have hf := ite_t c4 hf
    refine lv_iconst (v := 0) hx hb (dc tbX7_layCost_0_k 4 rfl) ic_0 ?_
    refine lv_goto (tgt := 15) hx hb (dc tbX7_layCost_0_k 5 rfl) rfl ?_
    exact tX7_layCost_b15 C hk0 x1 x2 (0 : Int32) M hf _ _ _ hI (lv_sub hl [0, 1, 2] rfl)
theorem cv_X7_layCost : cvF RX7 yX7_layCost cX7_layCost 9 none 2 := ⟨q_t9_119, q_s6_11, q_t1_11, q_t9_120, by decide +kernel⟩
def mX7_layCosts_b127 (k0 : Nat) (ih67 : Int32 → Mem → Option (Mem × Unit)) (x1 : Int32) (M : Mem) : Option (Mem × Unit) := bnd (x1 + (-1 : Int32)) (fun x1_127 => ih67 x1_127 M)
set_option maxHeartbeats 4000000 in
set_option maxRecDepth 100000 in
theorem tX7_layCosts_b127 {p : Program} {l : Launch} {e : Env} {s : State} {m : MethodId} {args : Array Value} {below : List Frame} {meth : Method} {c : Code} {G : GT} {kd : Nat → Nat × Nat} {ad : Nat → Nat} (C : Cx p s m args meth c cX7_layCosts 3 none RX7 G kd ad) {k0 : Nat} (hk0 : kModel kd k0) {MO : Mem} {vo : Unit} {ih67 : Int32 → Mem → Option (Mem × Unit)} (hih67 : ∀ (x1 : Int32) (M : Mem), ih67 x1 M = some (MO, vo) → At p l e (rmO 7 0 0) s m args below meth c 0 0 (MQ below (Qg G kd ad s.heap.size MO none) args s 0 0 (AS kd ad s.heap.size)) G kd ad 3 67 [(0, .ref (ad k0)), (1, .int x1)] [] M) : ∀ (x1 : Int32) (M : Mem), mX7_layCosts_b127 k0 ih67 x1 M = some (MO, vo) → At p l e (rmO 7 0 0) s m args below meth c 0 0 (MQ below (Qg G kd ad s.heap.size MO none) args s 0 0 (AS kd ad s.heap.size)) G kd ad 3 127 [(0, .ref (ad k0)), (1, .int x1)] [] M := by
  intro x1 M hf H locs ls hI hl
  obtain ⟨hx, hb, hml, hr, hown, hts, hlk, hK, hap, hsx⟩ := id C
  unfold mX7_layCosts_b127 at hf
  obtain ⟨x1_127, e13, hf⟩ := bnd_s hf
  refine lv_iinc (v := x1_127) (lv' := [(1, .int x1_127), (0, .ref (ad k0))]) hx hb (dc tbX7_layCosts_1_k 36 rfl) hl (k := 1) rfl (ii_e e13 ic_m1) (by decide) rfl (fun ls hl => ?_)
  refine lv_goto (tgt := 67) hx hb (dc tbX7_layCosts_1_k 37 rfl) rfl ?_
  exact hih67 x1_127 M hf _ _ _ hI (lv_sub hl [1, 0] rfl)
def mX7_layCosts_b121 (k0 : Nat) (ih67 : Int32 → Mem → Option (Mem × Unit)) (ih73 : Int32 → Int32 → Mem → Option (Mem × Unit)) (x1 : Int32) (x2 : Int32) (M : Mem) : Option (Mem × Unit) := bnd (x2 + (1 : Int32)) (fun x2_121 => ih73 x1 x2_121 M)
set_option maxHeartbeats 4000000 in
set_option maxRecDepth 100000 in
theorem tX7_layCosts_b121 {p : Program} {l : Launch} {e : Env} {s : State} {m : MethodId} {args : Array Value} {below : List Frame} {meth : Method} {c : Code} {G : GT} {kd : Nat → Nat × Nat} {ad : Nat → Nat} (C : Cx p s m args meth c cX7_layCosts 3 none RX7 G kd ad) {k0 : Nat} (hk0 : kModel kd k0) {MO : Mem} {vo : Unit} {ih67 : Int32 → Mem → Option (Mem × Unit)} {ih73 : Int32 → Int32 → Mem → Option (Mem × Unit)} (hih67 : ∀ (x1 : Int32) (M : Mem), ih67 x1 M = some (MO, vo) → At p l e (rmO 7 0 0) s m args below meth c 0 0 (MQ below (Qg G kd ad s.heap.size MO none) args s 0 0 (AS kd ad s.heap.size)) G kd ad 3 67 [(0, .ref (ad k0)), (1, .int x1)] [] M) (hih73 : ∀ (x1 : Int32) (x2 : Int32) (M : Mem), ih73 x1 x2 M = some (MO, vo) → At p l e (rmO 7 0 0) s m args below meth c 0 0 (MQ below (Qg G kd ad s.heap.size MO none) args s 0 0 (AS kd ad s.heap.size)) G kd ad 3 73 [(0, .ref (ad k0)), (1, .int x1), (2, .int x2)] [] M) : ∀ (x1 : Int32) (x2 : Int32) (M : Mem), mX7_layCosts_b121 k0 ih67 ih73 x1 x2 M = some (MO, vo) → At p l e (rmO 7 0 0) s m args below meth c 0 0 (MQ below (Qg G kd ad s.heap.size MO none) args s 0 0 (AS kd ad s.heap.size)) G kd ad 3 121 [(0, .ref (ad k0)), (1, .int x1), (2, .int x2)] [] M := by
  intro x1 x2 M hf H locs ls hI hl
  obtain ⟨hx, hb, hml, hr, hown, hts, hlk, hK, hap, hsx⟩ := id C
  unfold mX7_layCosts_b121 at hf
  obtain ⟨x2_121, e22, hf⟩ := bnd_s hf
  refine lv_iinc (v := x2_121) (lv' := [(2, .int x2_121), (0, .ref (ad k0)), (1, .int x1)]) hx hb (dc tbX7_layCosts_1_k 34 rfl) hl (k := 2) rfl (ii_e e22 ic_1) (by decide) rfl (fun ls hl => ?_)
  refine lv_goto (tgt := 73) hx hb (dc tbX7_layCosts_1_k 35 rfl) rfl ?_
  exact hih73 x1 x2_121 M hf _ _ _ hI (lv_sub hl [1, 2, 0] rfl)
def mX7_layCosts_b115 (k0 : Nat) (ih67 : Int32 → Mem → Option (Mem × Unit)) (ih73 : Int32 → Int32 → Mem → Option (Mem × Unit)) (x1 : Int32) (x2 : Int32) (M : Mem) : Option (Mem × Unit) := cal (mX7_layCost k0 x1 x2 M) (fun M21 _ => mX7_layCosts_b121 k0 ih67 ih73 x1 x2 M21)
set_option maxHeartbeats 4000000 in
set_option maxRecDepth 100000 in
theorem tX7_layCosts_b115 {p : Program} {l : Launch} {e : Env} {s : State} {m : MethodId} {args : Array Value} {below : List Frame} {meth : Method} {c : Code} {G : GT} {kd : Nat → Nat × Nat} {ad : Nat → Nat} (C : Cx p s m args meth c cX7_layCosts 3 none RX7 G kd ad) {k0 : Nat} (hk0 : kModel kd k0) {MO : Mem} {vo : Unit} {ih67 : Int32 → Mem → Option (Mem × Unit)} {ih73 : Int32 → Int32 → Mem → Option (Mem × Unit)} (hih67 : ∀ (x1 : Int32) (M : Mem), ih67 x1 M = some (MO, vo) → At p l e (rmO 7 0 0) s m args below meth c 0 0 (MQ below (Qg G kd ad s.heap.size MO none) args s 0 0 (AS kd ad s.heap.size)) G kd ad 3 67 [(0, .ref (ad k0)), (1, .int x1)] [] M) (hih73 : ∀ (x1 : Int32) (x2 : Int32) (M : Mem), ih73 x1 x2 M = some (MO, vo) → At p l e (rmO 7 0 0) s m args below meth c 0 0 (MQ below (Qg G kd ad s.heap.size MO none) args s 0 0 (AS kd ad s.heap.size)) G kd ad 3 73 [(0, .ref (ad k0)), (1, .int x1), (2, .int x2)] [] M) : ∀ (x1 : Int32) (x2 : Int32) (M : Mem), mX7_layCosts_b115 k0 ih67 ih73 x1 x2 M = some (MO, vo) → At p l e (rmO 7 0 0) s m args below meth c 0 0 (MQ below (Qg G kd ad s.heap.size MO none) args s 0 0 (AS kd ad s.heap.size)) G kd ad 3 115 [(0, .ref (ad k0)), (1, .int x1), (2, .int x2)] [] M := by
  intro x1 x2 M hf H locs ls hI hl
  obtain ⟨hx, hb, hml, hr, hown, hts, hlk, hK, hap, hsx⟩ := id C
  unfold mX7_layCosts_b115 at hf
  refine lv_aload_n hx hb (dc tbX7_layCosts_1_k 30 rfl) rfl (lv_at hl 0 rfl) ?_
  refine lv_iload_n hx hb (dc tbX7_layCosts_1_k 31 rfl) rfl (lv_at hl 1 rfl) ?_
  refine lv_iload_n hx hb (dc tbX7_layCosts_1_k 32 rfl) rfl (lv_at hl 2 rfl) ?_
  obtain ⟨M21, r20, q19, hf⟩ := cal_s hf
  refine g_callVv hx hb hml hown hts hK hap hsx hI (tX7_layCost l hk0 q19 H.size) cv_X7_layCost q_t9_117 rfl rfl ⟨Nat.le_of_ble_eq_true rfl, Nat.le_of_ble_eq_true rfl⟩ hk0.1 (by simp) rfl rfl rfl hl.1 rfl (Nat.le_of_ble_eq_true rfl) (dc tbX7_layCosts_1_k 33 rfl) ⟨Nat.le_of_ble_eq_true rfl, Nat.le_of_ble_eq_true rfl⟩ (fun H locs hI => ?_)
  exact tX7_layCosts_b121 C hk0 hih67 hih73 x1 x2 M21 hf _ _ _ hI (lv_sub hl [0, 1, 2] rfl)
def mX7_layCosts_b73 (k0 : Nat) (ih67 : Int32 → Mem → Option (Mem × Unit)) (ih73 : Int32 → Int32 → Mem → Option (Mem × Unit)) (x1 : Int32) (x2 : Int32) (M : Mem) : Option (Mem × Unit) := ite2 ((17 : Int32) ≤ x2) (mX7_layCosts_b127 k0 ih67 x1 M) (cap (mX7_isBehind k0 x1 M) (fun r15 => ite2 (r15 = 0) (mX7_layCosts_b127 k0 ih67 x1 M) (ite2 (x2 = (16 : Int32)) (mX7_layCosts_b115 k0 ih67 ih73 x1 x2 M) (chk (okb (0 : Int32) 86) (ite2 (((2 : Int32) * (rd M (k0 + 1) ((0 : Int32)).toNatClampNeg)) ≤ x2) (mX7_layCosts_b121 k0 ih67 ih73 x1 x2 M) (cap (mX7_has x1 (x2 / (2 : Int32)) M) (fun r26 => ite2 (r26 = 0) (mX7_layCosts_b121 k0 ih67 ih73 x1 x2 M) (mX7_layCosts_b115 k0 ih67 ih73 x1 x2 M))))))))
set_option maxHeartbeats 4000000 in
set_option maxRecDepth 100000 in
theorem tX7_layCosts_b73 {p : Program} {l : Launch} {e : Env} {s : State} {m : MethodId} {args : Array Value} {below : List Frame} {meth : Method} {c : Code} {G : GT} {kd : Nat → Nat × Nat} {ad : Nat → Nat} (C : Cx p s m args meth c cX7_layCosts 3 none RX7 G kd ad) {k0 : Nat} (hk0 : kModel kd k0) {MO : Mem} {vo : Unit} {ih67 : Int32 → Mem → Option (Mem × Unit)} {ih73 : Int32 → Int32 → Mem → Option (Mem × Unit)} (hih67 : ∀ (x1 : Int32) (M : Mem), ih67 x1 M = some (MO, vo) → At p l e (rmO 7 0 0) s m args below meth c 0 0 (MQ below (Qg G kd ad s.heap.size MO none) args s 0 0 (AS kd ad s.heap.size)) G kd ad 3 67 [(0, .ref (ad k0)), (1, .int x1)] [] M) (hih73 : ∀ (x1 : Int32) (x2 : Int32) (M : Mem), ih73 x1 x2 M = some (MO, vo) → At p l e (rmO 7 0 0) s m args below meth c 0 0 (MQ below (Qg G kd ad s.heap.size MO none) args s 0 0 (AS kd ad s.heap.size)) G kd ad 3 73 [(0, .ref (ad k0)), (1, .int x1), (2, .int x2)] [] M) : ∀ (x1 : Int32) (x2 : Int32) (M : Mem), mX7_layCosts_b73 k0 ih67 ih73 x1 x2 M = some (MO, vo) → At p l e (rmO 7 0 0) s m args below meth c 0 0 (MQ below (Qg G kd ad s.heap.size MO none) args s 0 0 (AS kd ad s.heap.size)) G kd ad 3 73 [(0, .ref (ad k0)), (1, .int x1), (2, .int x2)] [] M := by
  intro x1 x2 M hf H locs ls hI hl
  obtain ⟨hx, hb, hml, hr, hown, hts, hlk, hK, hap, hsx⟩ := id C
  unfold mX7_layCosts_b73 at hf
  refine lv_iload_n hx hb (dc tbX7_layCosts_1_k 6 rfl) rfl (lv_at hl 2 rfl) ?_
  refine lv_bipush (v := 17) hx hb (dc tbX7_layCosts_1_k 7 rfl) bp_17 ?_
  refine lv_icmp_ge (tgt := 127) hx hb (dc tbX7_layCosts_1_k 8 rfl) rfl (fun c12 => ?_) (fun c12 => ?_)
  · have hf := ite_t c12 hf
    exact tX7_layCosts_b127 C hk0 hih67 x1 M hf _ _ _ hI (lv_sub hl [0, 1] rfl)
  · have hf := ite_f c12 hf
    refine lv_aload_n hx hb (dc tbX7_layCosts_1_k 9 rfl) rfl (lv_at hl 0 rfl) ?_
    refine lv_iload_n hx hb (dc tbX7_layCosts_1_k 10 rfl) rfl (lv_at hl 1 rfl) ?_
    obtain ⟨r15, q14, hf⟩ := cap_s hf
    refine g_callVi hx hb hml hown hts hK hap hsx hI (tX7_isBehind l hk0 q14 H.size) cv_X7_isBehind q_t9_101 rfl rfl ⟨Nat.le_of_ble_eq_true rfl, Nat.le_of_ble_eq_true rfl⟩ hk0.1 (by simp) rfl rfl rfl hl.1 rfl (Nat.le_of_ble_eq_true rfl) (dc tbX7_layCosts_1_k 11 rfl) ⟨Nat.le_of_ble_eq_true rfl, Nat.le_of_ble_eq_true rfl⟩ (fun H locs hI => ?_)
    refine lv_if_eq (tgt := 127) hx hb (dc tbX7_layCosts_1_k 12 rfl) rfl (fun c17 => ?_) (fun c17 => ?_)
    · have hf := ite_t c17 hf
      exact tX7_layCosts_b127 C hk0 hih67 x1 M hf _ _ _ hI (lv_sub hl [0, 1] rfl)
    · have hf := ite_f c17 hf
      refine lv_iload_n hx hb (dc tbX7_layCosts_1_k 13 rfl) rfl (lv_at hl 2 rfl) ?_
      refine lv_bipush (v := 16) hx hb (dc tbX7_layCosts_1_k 14 rfl) bp_16 ?_
      refine lv_icmp_eq (tgt := 115) hx hb (dc tbX7_layCosts_1_k 15 rfl) rfl (fun c18 => ?_) (fun c18 => ?_)
      · have hf := ite_t c18 hf
        exact tX7_layCosts_b115 C hk0 hih67 hih73 x1 x2 M hf _ _ _ hI (lv_sub hl [0, 1, 2] rfl)
      · have hf := ite_f c18 hf
        refine lv_iload_n hx hb (dc tbX7_layCosts_1_k 16 rfl) rfl (lv_at hl 2 rfl) ?_
        refine lv_iconst (v := 2) hx hb (dc tbX7_layCosts_1_k 17 rfl) ic_2 ?_
        refine lv_aload_n hx hb (dc tbX7_layCosts_1_k 18 rfl) rfl (lv_at hl 0 rfl) ?_
        refine gg7_0 hx hb hts hown hK hI hk0.1 q_t7_76 (dc tbX7_layCosts_1_k 19 rfl) ?_
        refine lv_iconst (v := 0) hx hb (dc tbX7_layCosts_1_k 20 rfl) ic_0 ?_
        obtain ⟨h23, hf⟩ := chk_s hf
        refine g_iald hx hb hK hI hk0.2.1 (okb_in h23) (dc tbX7_layCosts_1_k 21 rfl) ?_
        refine lv_imul hx hb (dc tbX7_layCosts_1_k 22 rfl) ?_
        refine lv_icmp_ge (tgt := 121) hx hb (dc tbX7_layCosts_1_k 23 rfl) rfl (fun c24 => ?_) (fun c24 => ?_)
        · have hf := ite_t c24 hf
          exact tX7_layCosts_b121 C hk0 hih67 hih73 x1 x2 M hf _ _ _ hI (lv_sub hl [0, 1, 2] rfl)
        · have hf := ite_f c24 hf
          refine lv_iload_n hx hb (dc tbX7_layCosts_1_k 24 rfl) rfl (lv_at hl 1 rfl) ?_
          refine lv_iload_n hx hb (dc tbX7_layCosts_1_k 25 rfl) rfl (lv_at hl 2 rfl) ?_
          refine lv_iconst (v := 2) hx hb (dc tbX7_layCosts_1_k 26 rfl) ic_2 ?_
          refine lv_idiv hx hb (dc tbX7_layCosts_1_k 27 rfl) (by decide) ?_
          obtain ⟨r26, q25, hf⟩ := cap_s hf
          refine g_callSi hx hb hml hown hts hK hap hsx hI (tX7_has l  q25 H.size) cs_X7_has q_t8_226 rfl rfl ⟨Nat.le_of_ble_eq_true rfl, Nat.le_of_ble_eq_true rfl⟩ rfl hl.1 rfl (Nat.le_of_ble_eq_true rfl) (dc tbX7_layCosts_1_k 28 rfl) ⟨Nat.le_of_ble_eq_true rfl, Nat.le_of_ble_eq_true rfl⟩ (fun H locs hI => ?_)
          refine lv_if_eq (tgt := 121) hx hb (dc tbX7_layCosts_1_k 29 rfl) rfl (fun c28 => ?_) (fun c28 => ?_)
          · have hf := ite_t c28 hf
            exact tX7_layCosts_b121 C hk0 hih67 hih73 x1 x2 M hf _ _ _ hI (lv_sub hl [0, 1, 2] rfl)
          · have hf := ite_f c28 hf
            exact tX7_layCosts_b115 C hk0 hih67 hih73 x1 x2 M hf _ _ _ hI (lv_sub hl [0, 1, 2] rfl)
def mX7_layCosts_l73 (k0 : Nat) (ih67 : Int32 → Mem → Option (Mem × Unit)) : Nat → Int32 → Int32 → Mem → Option (Mem × Unit)
  | 0 => fun _ _ _ => none
  | n + 1 => mX7_layCosts_b73 k0 ih67 (mX7_layCosts_l73 k0 ih67 n)
theorem tX7_layCosts_l73 {p : Program} {l : Launch} {e : Env} {s : State} {m : MethodId} {args : Array Value} {below : List Frame} {meth : Method} {c : Code} {G : GT} {kd : Nat → Nat × Nat} {ad : Nat → Nat} (C : Cx p s m args meth c cX7_layCosts 3 none RX7 G kd ad) {k0 : Nat} (hk0 : kModel kd k0) {MO : Mem} {vo : Unit} {ih67 : Int32 → Mem → Option (Mem × Unit)} (hih67 : ∀ (x1 : Int32) (M : Mem), ih67 x1 M = some (MO, vo) → At p l e (rmO 7 0 0) s m args below meth c 0 0 (MQ below (Qg G kd ad s.heap.size MO none) args s 0 0 (AS kd ad s.heap.size)) G kd ad 3 67 [(0, .ref (ad k0)), (1, .int x1)] [] M) : ∀ (fuel : Nat) (x1 : Int32) (x2 : Int32) (M : Mem), mX7_layCosts_l73 k0 ih67 fuel x1 x2 M = some (MO, vo) → At p l e (rmO 7 0 0) s m args below meth c 0 0 (MQ below (Qg G kd ad s.heap.size MO none) args s 0 0 (AS kd ad s.heap.size)) G kd ad 3 73 [(0, .ref (ad k0)), (1, .int x1), (2, .int x2)] [] M := by
  intro fuel
  induction fuel with
  | zero => intro x1 x2 M hf; cases hf
  | succ n IH => exact tX7_layCosts_b73 C hk0 hih67 IH
def mX7_layCosts_b67 (k0 : Nat) (ih67 : Int32 → Mem → Option (Mem × Unit)) (x1 : Int32) (M : Mem) : Option (Mem × Unit) := ite2 (x1 < 0) (some (M, ())) (mX7_layCosts_l73 k0 ih67 5000 x1 (0 : Int32) M)
set_option maxHeartbeats 4000000 in
set_option maxRecDepth 100000 in
theorem tX7_layCosts_b67 {p : Program} {l : Launch} {e : Env} {s : State} {m : MethodId} {args : Array Value} {below : List Frame} {meth : Method} {c : Code} {G : GT} {kd : Nat → Nat × Nat} {ad : Nat → Nat} (C : Cx p s m args meth c cX7_layCosts 3 none RX7 G kd ad) {k0 : Nat} (hk0 : kModel kd k0) {MO : Mem} {vo : Unit} {ih67 : Int32 → Mem → Option (Mem × Unit)} (hih67 : ∀ (x1 : Int32) (M : Mem), ih67 x1 M = some (MO, vo) → At p l e (rmO 7 0 0) s m args below meth c 0 0 (MQ below (Qg G kd ad s.heap.size MO none) args s 0 0 (AS kd ad s.heap.size)) G kd ad 3 67 [(0, .ref (ad k0)), (1, .int x1)] [] M) : ∀ (x1 : Int32) (M : Mem), mX7_layCosts_b67 k0 ih67 x1 M = some (MO, vo) → At p l e (rmO 7 0 0) s m args below meth c 0 0 (MQ below (Qg G kd ad s.heap.size MO none) args s 0 0 (AS kd ad s.heap.size)) G kd ad 3 67 [(0, .ref (ad k0)), (1, .int x1)] [] M := by
  intro x1 M hf H locs ls hI hl
  obtain ⟨hx, hb, hml, hr, hown, hts, hlk, hK, hap, hsx⟩ := id C
  unfold mX7_layCosts_b67 at hf
  refine lv_iload_n hx hb (dc tbX7_layCosts_1_k 2 rfl) rfl (lv_at hl 1 rfl) ?_
  refine lv_if_lt (tgt := 133) hx hb (dc tbX7_layCosts_1_k 3 rfl) rfl (fun c11 => ?_) (fun c11 => ?_)
  · have hf := ite_t c11 hf
    cases hf
    exact g_vret hx hb hr hlk hI (dc tbX7_layCosts_1_k 38 rfl)
  · have hf := ite_f c11 hf
    refine lv_iconst (v := 0) hx hb (dc tbX7_layCosts_1_k 4 rfl) ic_0 ?_
    refine lv_istore_n (lv' := [(2, .int (0 : Int32)), (0, .ref (ad k0)), (1, .int x1)]) hx hb (dc tbX7_layCosts_1_k 5 rfl) rfl hl (by decide) rfl (fun ls hl => ?_)
    exact tX7_layCosts_l73 C hk0 hih67 5000 x1 (0 : Int32) M hf _ _ _ hI (lv_sub hl [1, 2, 0] rfl)
def mX7_layCosts_l67 (k0 : Nat) : Nat → Int32 → Mem → Option (Mem × Unit)
  | 0 => fun _ _ => none
  | n + 1 => mX7_layCosts_b67 k0 (mX7_layCosts_l67 k0 n)
theorem tX7_layCosts_l67 {p : Program} {l : Launch} {e : Env} {s : State} {m : MethodId} {args : Array Value} {below : List Frame} {meth : Method} {c : Code} {G : GT} {kd : Nat → Nat × Nat} {ad : Nat → Nat} (C : Cx p s m args meth c cX7_layCosts 3 none RX7 G kd ad) {k0 : Nat} (hk0 : kModel kd k0) {MO : Mem} {vo : Unit}   : ∀ (fuel : Nat) (x1 : Int32) (M : Mem), mX7_layCosts_l67 k0 fuel x1 M = some (MO, vo) → At p l e (rmO 7 0 0) s m args below meth c 0 0 (MQ below (Qg G kd ad s.heap.size MO none) args s 0 0 (AS kd ad s.heap.size)) G kd ad 3 67 [(0, .ref (ad k0)), (1, .int x1)] [] M := by
  intro fuel
  induction fuel with
  | zero => intro x1 M hf; cases hf
  | succ n IH => exact tX7_layCosts_b67 C hk0 IH
def mX7_layCosts_b16 (k0 : Nat) (ih6 : Int32 → Mem → Option (Mem × Unit)) (ih16 : Int32 → Int32 → Mem → Option (Mem × Unit)) (x1 : Int32) (x2 : Int32) (M : Mem) : Option (Mem × Unit) := chk (okb (0 : Int32) 86) (ite2 (((2 : Int32) * (rd M (k0 + 1) ((0 : Int32)).toNatClampNeg)) ≤ x2) (bnd (x1 + (1 : Int32)) (fun x1_56 => ih6 x1_56 M)) (cal (mX7_gaugeOf k0 (x2 / (2 : Int32)) (x2 - x2 / (2 : Int32) * (2 : Int32)) x1 M) (fun M34 r33 => chk (okb (((16 : Int32) * x1) + x2) 4096) (bnd (wr M34 (k0 + 11) ((((16 : Int32) * x1) + x2)).toNatClampNeg r33) (fun M37 => bnd (x2 + (1 : Int32)) (fun x2_50 => ih16 x1 x2_50 M37))))))
set_option maxHeartbeats 4000000 in
set_option maxRecDepth 100000 in
theorem tX7_layCosts_b16 {p : Program} {l : Launch} {e : Env} {s : State} {m : MethodId} {args : Array Value} {below : List Frame} {meth : Method} {c : Code} {G : GT} {kd : Nat → Nat × Nat} {ad : Nat → Nat} (C : Cx p s m args meth c cX7_layCosts 3 none RX7 G kd ad) {k0 : Nat} (hk0 : kModel kd k0) {MO : Mem} {vo : Unit} {ih6 : Int32 → Mem → Option (Mem × Unit)} {ih16 : Int32 → Int32 → Mem → Option (Mem × Unit)} (hih6 : ∀ (x1 : Int32) (M : Mem), ih6 x1 M = some (MO, vo) → At p l e (rmO 7 0 0) s m args below meth c 0 0 (MQ below (Qg G kd ad s.heap.size MO none) args s 0 0 (AS kd ad s.heap.size)) G kd ad 3 6 [(0, .ref (ad k0)), (1, .int x1)] [] M) (hih16 : ∀ (x1 : Int32) (x2 : Int32) (M : Mem), ih16 x1 x2 M = some (MO, vo) → At p l e (rmO 7 0 0) s m args below meth c 0 0 (MQ below (Qg G kd ad s.heap.size MO none) args s 0 0 (AS kd ad s.heap.size)) G kd ad 3 16 [(0, .ref (ad k0)), (1, .int x1), (2, .int x2)] [] M) : ∀ (x1 : Int32) (x2 : Int32) (M : Mem), mX7_layCosts_b16 k0 ih6 ih16 x1 x2 M = some (MO, vo) → At p l e (rmO 7 0 0) s m args below meth c 0 0 (MQ below (Qg G kd ad s.heap.size MO none) args s 0 0 (AS kd ad s.heap.size)) G kd ad 3 16 [(0, .ref (ad k0)), (1, .int x1), (2, .int x2)] [] M := by
  intro x1 x2 M hf H locs ls hI hl
  obtain ⟨hx, hb, hml, hr, hown, hts, hlk, hK, hap, hsx⟩ := id C
  unfold mX7_layCosts_b16 at hf
  refine lv_iload_n hx hb (dc tbX7_layCosts_0_k 10 rfl) rfl (lv_at hl 2 rfl) ?_
  refine lv_iconst (v := 2) hx hb (dc tbX7_layCosts_0_k 11 rfl) ic_2 ?_
  refine lv_aload_n hx hb (dc tbX7_layCosts_0_k 12 rfl) rfl (lv_at hl 0 rfl) ?_
  refine gg7_0 hx hb hts hown hK hI hk0.1 q_t7_76 (dc tbX7_layCosts_0_k 13 rfl) ?_
  refine lv_iconst (v := 0) hx hb (dc tbX7_layCosts_0_k 14 rfl) ic_0 ?_
  obtain ⟨h29, hf⟩ := chk_s hf
  refine g_iald hx hb hK hI hk0.2.1 (okb_in h29) (dc tbX7_layCosts_0_k 15 rfl) ?_
  refine lv_imul hx hb (dc tbX7_layCosts_0_k 16 rfl) ?_
  refine lv_icmp_ge (tgt := 56) hx hb (dc tbX7_layCosts_0_k 17 rfl) rfl (fun c30 => ?_) (fun c30 => ?_)
  · have hf := ite_t c30 hf
    obtain ⟨x1_56, e31, hf⟩ := bnd_s hf
    refine lv_iinc (v := x1_56) (lv' := [(1, .int x1_56), (0, .ref (ad k0)), (2, .int x2)]) hx hb (dc tbX7_layCosts_0_k 37 rfl) hl (k := 1) rfl (ii_e e31 ic_1) (by decide) rfl (fun ls hl => ?_)
    refine lv_goto (tgt := 6) hx hb (dc tbX7_layCosts_0_k 38 rfl) rfl ?_
    exact hih6 x1_56 M hf _ _ _ hI (lv_sub hl [1, 0] rfl)
  · have hf := ite_f c30 hf
    refine lv_aload_n hx hb (dc tbX7_layCosts_0_k 18 rfl) rfl (lv_at hl 0 rfl) ?_
    refine gg7_24 hx hb hts hown hK hI hk0.1 q_t7_100 (dc tbX7_layCosts_0_k 19 rfl) ?_
    refine lv_bipush (v := 16) hx hb (dc tbX7_layCosts_0_k 20 rfl) bp_16 ?_
    refine lv_iload_n hx hb (dc tbX7_layCosts_0_k 21 rfl) rfl (lv_at hl 1 rfl) ?_
    refine lv_imul hx hb (dc tbX7_layCosts_0_k 22 rfl) ?_
    refine lv_iload_n hx hb (dc tbX7_layCosts_0_k 23 rfl) rfl (lv_at hl 2 rfl) ?_
    refine lv_iadd hx hb (dc tbX7_layCosts_0_k 24 rfl) ?_
    refine lv_aload_n hx hb (dc tbX7_layCosts_0_k 25 rfl) rfl (lv_at hl 0 rfl) ?_
    refine lv_iload_n hx hb (dc tbX7_layCosts_0_k 26 rfl) rfl (lv_at hl 2 rfl) ?_
    refine lv_iconst (v := 2) hx hb (dc tbX7_layCosts_0_k 27 rfl) ic_2 ?_
    refine lv_idiv hx hb (dc tbX7_layCosts_0_k 28 rfl) (by decide) ?_
    refine lv_iload_n hx hb (dc tbX7_layCosts_0_k 29 rfl) rfl (lv_at hl 2 rfl) ?_
    refine lv_iconst (v := 2) hx hb (dc tbX7_layCosts_0_k 30 rfl) ic_2 ?_
    refine lv_irem hx hb (dc tbX7_layCosts_0_k 31 rfl) (by decide) ?_
    refine lv_iload_n hx hb (dc tbX7_layCosts_0_k 32 rfl) rfl (lv_at hl 1 rfl) ?_
    obtain ⟨M34, r33, q32, hf⟩ := cal_s hf
    refine g_callVi hx hb hml hown hts hK hap hsx hI (tX7_gaugeOf l hk0 q32 H.size) cv_X7_gaugeOf q_t9_48 rfl rfl ⟨Nat.le_of_ble_eq_true rfl, Nat.le_of_ble_eq_true rfl⟩ hk0.1 (by simp) rfl rfl rfl hl.1 rfl (Nat.le_of_ble_eq_true rfl) (dc tbX7_layCosts_0_k 33 rfl) ⟨Nat.le_of_ble_eq_true rfl, Nat.le_of_ble_eq_true rfl⟩ (fun H locs hI => ?_)
    obtain ⟨h35, hf⟩ := chk_s hf
    obtain ⟨M37, e36, hf⟩ := bnd_s hf
    refine g_iast hx hb hK hap hI hk0.2.2.2.2.2.2.2.2.2.2.2.1 (okb_in h35) (dc tbX7_layCosts_0_k 34 rfl) e36 (fun H locs hI => ?_)
    obtain ⟨x2_50, e38, hf⟩ := bnd_s hf
    refine lv_iinc (v := x2_50) (lv' := [(2, .int x2_50), (0, .ref (ad k0)), (1, .int x1)]) hx hb (dc tbX7_layCosts_0_k 35 rfl) hl (k := 2) rfl (ii_e e38 ic_1) (by decide) rfl (fun ls hl => ?_)
    refine lv_goto (tgt := 16) hx hb (dc tbX7_layCosts_0_k 36 rfl) rfl ?_
    exact hih16 x1 x2_50 M37 hf _ _ _ hI (lv_sub hl [1, 2, 0] rfl)
def mX7_layCosts_l16 (k0 : Nat) (ih6 : Int32 → Mem → Option (Mem × Unit)) : Nat → Int32 → Int32 → Mem → Option (Mem × Unit)
  | 0 => fun _ _ _ => none
  | n + 1 => mX7_layCosts_b16 k0 ih6 (mX7_layCosts_l16 k0 ih6 n)
theorem tX7_layCosts_l16 {p : Program} {l : Launch} {e : Env} {s : State} {m : MethodId} {args : Array Value} {below : List Frame} {meth : Method} {c : Code} {G : GT} {kd : Nat → Nat × Nat} {ad : Nat → Nat} (C : Cx p s m args meth c cX7_layCosts 3 none RX7 G kd ad) {k0 : Nat} (hk0 : kModel kd k0) {MO : Mem} {vo : Unit} {ih6 : Int32 → Mem → Option (Mem × Unit)} (hih6 : ∀ (x1 : Int32) (M : Mem), ih6 x1 M = some (MO, vo) → At p l e (rmO 7 0 0) s m args below meth c 0 0 (MQ below (Qg G kd ad s.heap.size MO none) args s 0 0 (AS kd ad s.heap.size)) G kd ad 3 6 [(0, .ref (ad k0)), (1, .int x1)] [] M) : ∀ (fuel : Nat) (x1 : Int32) (x2 : Int32) (M : Mem), mX7_layCosts_l16 k0 ih6 fuel x1 x2 M = some (MO, vo) → At p l e (rmO 7 0 0) s m args below meth c 0 0 (MQ below (Qg G kd ad s.heap.size MO none) args s 0 0 (AS kd ad s.heap.size)) G kd ad 3 16 [(0, .ref (ad k0)), (1, .int x1), (2, .int x2)] [] M := by
  intro fuel
  induction fuel with
  | zero => intro x1 x2 M hf; cases hf
  | succ n IH => exact tX7_layCosts_b16 C hk0 hih6 IH
def mX7_layCosts_b6 (k0 : Nat) (ih6 : Int32 → Mem → Option (Mem × Unit)) (x1 : Int32) (M : Mem) : Option (Mem × Unit) := cap (mX7_full k0 M) (fun r5 => ite2 (r5 < x1) (cap (mX7_full k0 M) (fun r9 => mX7_layCosts_l67 k0 5000 r9 M)) (mX7_layCosts_l16 k0 ih6 5000 x1 (0 : Int32) M))
set_option maxHeartbeats 4000000 in
set_option maxRecDepth 100000 in
theorem tX7_layCosts_b6 {p : Program} {l : Launch} {e : Env} {s : State} {m : MethodId} {args : Array Value} {below : List Frame} {meth : Method} {c : Code} {G : GT} {kd : Nat → Nat × Nat} {ad : Nat → Nat} (C : Cx p s m args meth c cX7_layCosts 3 none RX7 G kd ad) {k0 : Nat} (hk0 : kModel kd k0) {MO : Mem} {vo : Unit} {ih6 : Int32 → Mem → Option (Mem × Unit)} (hih6 : ∀ (x1 : Int32) (M : Mem), ih6 x1 M = some (MO, vo) → At p l e (rmO 7 0 0) s m args below meth c 0 0 (MQ below (Qg G kd ad s.heap.size MO none) args s 0 0 (AS kd ad s.heap.size)) G kd ad 3 6 [(0, .ref (ad k0)), (1, .int x1)] [] M) : ∀ (x1 : Int32) (M : Mem), mX7_layCosts_b6 k0 ih6 x1 M = some (MO, vo) → At p l e (rmO 7 0 0) s m args below meth c 0 0 (MQ below (Qg G kd ad s.heap.size MO none) args s 0 0 (AS kd ad s.heap.size)) G kd ad 3 6 [(0, .ref (ad k0)), (1, .int x1)] [] M := by
  intro x1 M hf H locs ls hI hl
  obtain ⟨hx, hb, hml, hr, hown, hts, hlk, hK, hap, hsx⟩ := id C
  unfold mX7_layCosts_b6 at hf
  refine lv_iload_n hx hb (dc tbX7_layCosts_0_k 4 rfl) rfl (lv_at hl 1 rfl) ?_
  refine lv_aload_n hx hb (dc tbX7_layCosts_0_k 5 rfl) rfl (lv_at hl 0 rfl) ?_
  obtain ⟨r5, q4, hf⟩ := cap_s hf
  refine g_callVi hx hb hml hown hts hK hap hsx hI (tX7_full l hk0 q4 H.size) cv_X7_full q_t9_97 rfl rfl ⟨Nat.le_of_ble_eq_true rfl, Nat.le_of_ble_eq_true rfl⟩ hk0.1 (by simp) rfl rfl rfl hl.1 rfl (Nat.le_of_ble_eq_true rfl) (dc tbX7_layCosts_0_k 6 rfl) ⟨Nat.le_of_ble_eq_true rfl, Nat.le_of_ble_eq_true rfl⟩ (fun H locs hI => ?_)
  refine lv_icmp_gt (tgt := 62) hx hb (dc tbX7_layCosts_0_k 7 rfl) rfl (fun c7 => ?_) (fun c7 => ?_)
  · have hf := ite_t c7 hf
    refine lv_aload_n hx hb (dc tbX7_layCosts_0_k 39 rfl) rfl (lv_at hl 0 rfl) ?_
    obtain ⟨r9, q8, hf⟩ := cap_s hf
    refine g_callVi hx hb hml hown hts hK hap hsx hI (tX7_full l hk0 q8 H.size) cv_X7_full q_t9_97 rfl rfl ⟨Nat.le_of_ble_eq_true rfl, Nat.le_of_ble_eq_true rfl⟩ hk0.1 (by simp) rfl rfl rfl hl.1 rfl (Nat.le_of_ble_eq_true rfl) (dc tbX7_layCosts_1_k 0 rfl) ⟨Nat.le_of_ble_eq_true rfl, Nat.le_of_ble_eq_true rfl⟩ (fun H locs hI => ?_)
    refine lv_istore_n (lv' := [(1, .int r9), (0, .ref (ad k0))]) hx hb (dc tbX7_layCosts_1_k 1 rfl) rfl hl (by decide) rfl (fun ls hl => ?_)
    exact tX7_layCosts_l67 C hk0 5000 r9 M hf _ _ _ hI (lv_sub hl [1, 0] rfl)
  · have hf := ite_f c7 hf
    refine lv_iconst (v := 0) hx hb (dc tbX7_layCosts_0_k 8 rfl) ic_0 ?_
    refine lv_istore_n (lv' := [(2, .int (0 : Int32)), (0, .ref (ad k0)), (1, .int x1)]) hx hb (dc tbX7_layCosts_0_k 9 rfl) rfl hl (by decide) rfl (fun ls hl => ?_)
    exact tX7_layCosts_l16 C hk0 hih6 5000 x1 (0 : Int32) M hf _ _ _ hI (lv_sub hl [1, 2, 0] rfl)
def mX7_layCosts_l6 (k0 : Nat) : Nat → Int32 → Mem → Option (Mem × Unit)
  | 0 => fun _ _ => none
  | n + 1 => mX7_layCosts_b6 k0 (mX7_layCosts_l6 k0 n)
theorem tX7_layCosts_l6 {p : Program} {l : Launch} {e : Env} {s : State} {m : MethodId} {args : Array Value} {below : List Frame} {meth : Method} {c : Code} {G : GT} {kd : Nat → Nat × Nat} {ad : Nat → Nat} (C : Cx p s m args meth c cX7_layCosts 3 none RX7 G kd ad) {k0 : Nat} (hk0 : kModel kd k0) {MO : Mem} {vo : Unit}   : ∀ (fuel : Nat) (x1 : Int32) (M : Mem), mX7_layCosts_l6 k0 fuel x1 M = some (MO, vo) → At p l e (rmO 7 0 0) s m args below meth c 0 0 (MQ below (Qg G kd ad s.heap.size MO none) args s 0 0 (AS kd ad s.heap.size)) G kd ad 3 6 [(0, .ref (ad k0)), (1, .int x1)] [] M := by
  intro fuel
  induction fuel with
  | zero => intro x1 M hf; cases hf
  | succ n IH => exact tX7_layCosts_b6 C hk0 IH
def mX7_layCosts (k0 : Nat) (M : Mem) : Option (Mem × Unit) := cal (mX7_layOrders k0 M) (fun M3 _ => mX7_layCosts_l6 k0 5000 (0 : Int32) M3)
set_option maxHeartbeats 4000000 in
set_option maxRecDepth 100000 in
theorem tX7_layCosts (l : Launch) {G : GT} {kd : Nat → Nat × Nat} {ad : Nat → Nat} {k0 : Nat} (hk0 : kModel kd k0) {M : Mem} {MO : Mem} {vo : Unit} (hf : mX7_layCosts k0 M = some (MO, vo)) (n : Nat) : Met l yX7_layCosts (Cond.code yX7_layCosts cX7_layCosts 3 none :: WA) (rmO 7 0 0) (Pg G kd ad n [.ref (ad k0)] M) (Qg G kd ad n MO none) 0 0 (AS kd ad n) := by
  refine g_body (own := RX7) (by decide) rfl ?_ (Nat.le_of_ble_eq_true rfl)
  intro p e s m args below meth c C _ H locs ls hI hl
  obtain ⟨hx, hb, hml, hr, hown, hts, hlk, hK, hap, hsx⟩ := id C
  have hl : lv_has ls 3 [(0, .ref (ad k0))] := hl
  unfold mX7_layCosts at hf
  refine lv_aload_n hx hb (dc tbX7_layCosts_0_k 0 rfl) rfl (lv_at hl 0 rfl) ?_
  obtain ⟨M3, r2, q1, hf⟩ := cal_s hf
  refine g_callVv hx hb hml hown hts hK hap hsx hI (tX7_layOrders l hk0 q1 H.size) cv_X7_layOrders q_t9_93 rfl rfl ⟨Nat.le_of_ble_eq_true rfl, Nat.le_of_ble_eq_true rfl⟩ hk0.1 (by simp) rfl rfl rfl hl.1 rfl (Nat.le_of_ble_eq_true rfl) (dc tbX7_layCosts_0_k 1 rfl) ⟨Nat.le_of_ble_eq_true rfl, Nat.le_of_ble_eq_true rfl⟩ (fun H locs hI => ?_)
  refine lv_iconst (v := 0) hx hb (dc tbX7_layCosts_0_k 2 rfl) ic_0 ?_
  refine lv_istore_n (lv' := [(1, .int (0 : Int32)), (0, .ref (ad k0))]) hx hb (dc tbX7_layCosts_0_k 3 rfl) rfl hl (by decide) rfl (fun ls hl => ?_)
  exact tX7_layCosts_l6 C hk0 5000 (0 : Int32) M3 hf _ _ _ hI (lv_sub hl [1, 0] rfl)
theorem cv_X7_layCosts : cvF RX7 yX7_layCosts cX7_layCosts 3 none 0 := ⟨q_t9_115, q_s6_10, q_t1_11, q_t9_116, by decide +kernel⟩
def mX7_lastNow (k0 : Nat) (M : Mem) : Option Int32 := chk (okb (53 : Int32) 86) (ite2 ((rd M (k0 + 1) ((53 : Int32)).toNatClampNeg) = 0) (some (16 : Int32)) (chk (okb (53 : Int32) 86) (cap (mX7_stepOf k0 ((rd M (k0 + 1) ((53 : Int32)).toNatClampNeg) - (1 : Int32)) (0 : Int32) M) (fun r5 => chk (okb (53 : Int32) 86) (cap (mX7_stepOf k0 ((rd M (k0 + 1) ((53 : Int32)).toNatClampNeg) - (1 : Int32)) (1 : Int32) M) (fun r9 => some (((2 : Int32) * r5) + r9)))))))
set_option maxHeartbeats 4000000 in
set_option maxRecDepth 100000 in
theorem tX7_lastNow (l : Launch) {G : GT} {kd : Nat → Nat × Nat} {ad : Nat → Nat} {k0 : Nat} (hk0 : kModel kd k0) {M : Mem} {vo : Int32} (hf : mX7_lastNow k0 M = some vo) (n : Nat) : Met l yX7_lastNow (Cond.code yX7_lastNow cX7_lastNow 1 (some .int) :: WA) (rmO 1 0 0) (Pg G kd ad n [.ref (ad k0)] M) (Qg G kd ad n M (some (.int vo))) 0 0 (AS kd ad n) := by
  refine g_body (own := RX7) (by decide) rfl ?_ (Nat.le_of_ble_eq_true rfl)
  intro p e s m args below meth c C _ H locs ls hI hl
  obtain ⟨hx, hb, hml, hr, hown, hts, hlk, hK, hap, hsx⟩ := id C
  have hl : lv_has ls 1 [(0, .ref (ad k0))] := hl
  unfold mX7_lastNow at hf
  refine lv_aload_n hx hb (dc tbX7_lastNow_k 0 rfl) rfl (lv_at hl 0 rfl) ?_
  refine gg7_0 hx hb hts hown hK hI hk0.1 q_t7_76 (dc tbX7_lastNow_k 1 rfl) ?_
  refine lv_bipush (v := 53) hx hb (dc tbX7_lastNow_k 2 rfl) bp_53 ?_
  obtain ⟨h1, hf⟩ := chk_s hf
  refine g_iald hx hb hK hI hk0.2.1 (okb_in h1) (dc tbX7_lastNow_k 3 rfl) ?_
  refine lv_if_ne (tgt := 15) hx hb (dc tbX7_lastNow_k 4 rfl) rfl (fun c2 => ?_) (fun c2 => ?_)
  · have hf := ite_f c2 hf
    refine lv_iconst (v := 2) hx hb (dc tbX7_lastNow_k 7 rfl) ic_2 ?_
    refine lv_aload_n hx hb (dc tbX7_lastNow_k 8 rfl) rfl (lv_at hl 0 rfl) ?_
    refine lv_aload_n hx hb (dc tbX7_lastNow_k 9 rfl) rfl (lv_at hl 0 rfl) ?_
    refine gg7_0 hx hb hts hown hK hI hk0.1 q_t7_76 (dc tbX7_lastNow_k 10 rfl) ?_
    refine lv_bipush (v := 53) hx hb (dc tbX7_lastNow_k 11 rfl) bp_53 ?_
    obtain ⟨h3, hf⟩ := chk_s hf
    refine g_iald hx hb hK hI hk0.2.1 (okb_in h3) (dc tbX7_lastNow_k 12 rfl) ?_
    refine lv_iconst (v := 1) hx hb (dc tbX7_lastNow_k 13 rfl) ic_1 ?_
    refine lv_isub hx hb (dc tbX7_lastNow_k 14 rfl) ?_
    refine lv_iconst (v := 0) hx hb (dc tbX7_lastNow_k 15 rfl) ic_0 ?_
    obtain ⟨r5, q4, hf⟩ := cap_s hf
    refine g_callVi hx hb hml hown hts hK hap hsx hI (tX7_stepOf l hk0 q4 H.size) cv_X7_stepOf q_t8_203 rfl rfl ⟨Nat.le_of_ble_eq_true rfl, Nat.le_of_ble_eq_true rfl⟩ hk0.1 (by simp) rfl rfl rfl hl.1 rfl (Nat.le_of_ble_eq_true rfl) (dc tbX7_lastNow_k 16 rfl) ⟨Nat.le_of_ble_eq_true rfl, Nat.le_of_ble_eq_true rfl⟩ (fun H locs hI => ?_)
    refine lv_imul hx hb (dc tbX7_lastNow_k 17 rfl) ?_
    refine lv_aload_n hx hb (dc tbX7_lastNow_k 18 rfl) rfl (lv_at hl 0 rfl) ?_
    refine lv_aload_n hx hb (dc tbX7_lastNow_k 19 rfl) rfl (lv_at hl 0 rfl) ?_
    refine gg7_0 hx hb hts hown hK hI hk0.1 q_t7_76 (dc tbX7_lastNow_k 20 rfl) ?_
    refine lv_bipush (v := 53) hx hb (dc tbX7_lastNow_k 21 rfl) bp_53 ?_
    obtain ⟨h7, hf⟩ := chk_s hf
    refine g_iald hx hb hK hI hk0.2.1 (okb_in h7) (dc tbX7_lastNow_k 22 rfl) ?_
    refine lv_iconst (v := 1) hx hb (dc tbX7_lastNow_k 23 rfl) ic_1 ?_
    refine lv_isub hx hb (dc tbX7_lastNow_k 24 rfl) ?_
    refine lv_iconst (v := 1) hx hb (dc tbX7_lastNow_k 25 rfl) ic_1 ?_
    obtain ⟨r9, q8, hf⟩ := cap_s hf
    refine g_callVi hx hb hml hown hts hK hap hsx hI (tX7_stepOf l hk0 q8 H.size) cv_X7_stepOf q_t8_203 rfl rfl ⟨Nat.le_of_ble_eq_true rfl, Nat.le_of_ble_eq_true rfl⟩ hk0.1 (by simp) rfl rfl rfl hl.1 rfl (Nat.le_of_ble_eq_true rfl) (dc tbX7_lastNow_k 26 rfl) ⟨Nat.le_of_ble_eq_true rfl, Nat.le_of_ble_eq_true rfl⟩ (fun H locs hI => ?_)
    refine lv_iadd hx hb (dc tbX7_lastNow_k 27 rfl) ?_
    cases hf
    exact g_iret hx hb hr hlk hI (dc tbX7_lastNow_k 28 rfl)
  · have hf := ite_t c2 hf
    refine lv_bipush (v := 16) hx hb (dc tbX7_lastNow_k 5 rfl) bp_16 ?_
    refine lv_goto (tgt := 46) hx hb (dc tbX7_lastNow_k 6 rfl) rfl ?_
    cases hf
    exact g_iret hx hb hr hlk hI (dc tbX7_lastNow_k 28 rfl)
theorem cv_X7_lastNow : cvF RX7 yX7_lastNow cX7_lastNow 1 (some .int) 0 := ⟨q_t9_133, q_s6_14, q_t1_11, q_t9_134, by decide +kernel⟩
def mX7_isOrder (k0 : Nat) (M : Mem) : Option Int32 := chk (okb (52 : Int32) 86) (chk (okb (rd M (k0 + 1) ((52 : Int32)).toNatClampNeg) 256) (ite2 ((lg_cmp (rl M (k0 + 12) ((rd M (k0 + 1) ((52 : Int32)).toNatClampNeg)).toNatClampNeg) (0 : Int64)) ≤ 0) (some (0 : Int32)) (some (1 : Int32))))
set_option maxHeartbeats 4000000 in
set_option maxRecDepth 100000 in
theorem tX7_isOrder (l : Launch) {G : GT} {kd : Nat → Nat × Nat} {ad : Nat → Nat} {k0 : Nat} (hk0 : kModel kd k0) {M : Mem} {vo : Int32} (hf : mX7_isOrder k0 M = some vo) (n : Nat) : Met l yX7_isOrder (Cond.code yX7_isOrder cX7_isOrder 1 (some .boolean) :: WA) (rmO 0 0 0) (Pg G kd ad n [.ref (ad k0)] M) (Qg G kd ad n M (some (.int vo))) 0 0 (AS kd ad n) := by
  refine g_body (own := RX7) (by decide) rfl ?_ (Nat.le_of_ble_eq_true rfl)
  intro p e s m args below meth c C _ H locs ls hI hl
  obtain ⟨hx, hb, hml, hr, hown, hts, hlk, hK, hap, hsx⟩ := id C
  have hl : lv_has ls 1 [(0, .ref (ad k0))] := hl
  unfold mX7_isOrder at hf
  refine lv_aload_n hx hb (dc tbX7_isOrder_k 0 rfl) rfl (lv_at hl 0 rfl) ?_
  refine gg7_25 hx hb hts hown hK hI hk0.1 q_t7_101 (dc tbX7_isOrder_k 1 rfl) ?_
  refine lv_aload_n hx hb (dc tbX7_isOrder_k 2 rfl) rfl (lv_at hl 0 rfl) ?_
  refine gg7_0 hx hb hts hown hK hI hk0.1 q_t7_76 (dc tbX7_isOrder_k 3 rfl) ?_
  refine lv_bipush (v := 52) hx hb (dc tbX7_isOrder_k 4 rfl) bp_52 ?_
  obtain ⟨h1, hf⟩ := chk_s hf
  refine g_iald hx hb hK hI hk0.2.1 (okb_in h1) (dc tbX7_isOrder_k 5 rfl) ?_
  obtain ⟨h2, hf⟩ := chk_s hf
  refine g_lald hx hb hK hI hk0.2.2.2.2.2.2.2.2.2.2.2.2.1 (okb_in h2) (dc tbX7_isOrder_k 6 rfl) ?_
  refine lv_lconst (v := 0) hx hb (dc tbX7_isOrder_k 7 rfl) (by decide) ?_
  refine W.lcmp hx hb (dc tbX7_isOrder_k 8 rfl) ?_
  refine lv_if_le (tgt := 21) hx hb (dc tbX7_isOrder_k 9 rfl) rfl (fun c3 => ?_) (fun c3 => ?_)
  · have hf := ite_t c3 hf
    refine lv_iconst (v := 0) hx hb (dc tbX7_isOrder_k 12 rfl) ic_0 ?_
    cases hf
    exact g_zret hx hb hr hlk hI rfl (dc tbX7_isOrder_k 13 rfl)
  · have hf := ite_f c3 hf
    refine lv_iconst (v := 1) hx hb (dc tbX7_isOrder_k 10 rfl) ic_1 ?_
    refine lv_goto (tgt := 22) hx hb (dc tbX7_isOrder_k 11 rfl) rfl ?_
    cases hf
    exact g_zret hx hb hr hlk hI rfl (dc tbX7_isOrder_k 13 rfl)
theorem cv_X7_isOrder : cvF RX7 yX7_isOrder cX7_isOrder 1 (some .boolean) 0 := ⟨q_t9_129, q_s6_13, q_t1_11, q_t9_130, by decide +kernel⟩
def mX7_orders (k0 : Nat) (M : Mem) : Option (Mem × Int64) := bnd (wr M k0 5 (0 : Int32)) (fun M1 => cal (mX7_layOrders k0 M1) (fun M5 _ => chk (okb (52 : Int32) 86) (chk (okb (rd M5 (k0 + 1) ((52 : Int32)).toNatClampNeg) 256) (some (M5, (rl M5 (k0 + 12) ((rd M5 (k0 + 1) ((52 : Int32)).toNatClampNeg)).toNatClampNeg))))))
set_option maxHeartbeats 4000000 in
set_option maxRecDepth 100000 in
theorem tX7_orders (l : Launch) {G : GT} {kd : Nat → Nat × Nat} {ad : Nat → Nat} {k0 : Nat} (hk0 : kModel kd k0) {M : Mem} {MO : Mem} {vo : Int64} (hf : mX7_orders k0 M = some (MO, vo)) (n : Nat) : Met l yX7_orders (Cond.code yX7_orders cX7_orders 1 (some .long) :: WA) (rmO 7 0 0) (Pg G kd ad n [.ref (ad k0)] M) (Qg G kd ad n MO (some (.long vo))) 0 0 (AS kd ad n) := by
  refine g_body (own := RX7) (by decide) rfl ?_ (Nat.le_of_ble_eq_true rfl)
  intro p e s m args below meth c C _ H locs ls hI hl
  obtain ⟨hx, hb, hml, hr, hown, hts, hlk, hK, hap, hsx⟩ := id C
  have hl : lv_has ls 1 [(0, .ref (ad k0))] := hl
  unfold mX7_orders at hf
  refine lv_aload_n hx hb (dc tbX7_orders_k 0 rfl) rfl (lv_at hl 0 rfl) ?_
  refine lv_iconst (v := 0) hx hb (dc tbX7_orders_k 1 rfl) ic_0 ?_
  obtain ⟨M1, e2, hf⟩ := bnd_s hf
  refine gp7_5 hx hb hts hown hK hap hI hk0.1 q_t7_81 (dc tbX7_orders_k 2 rfl) e2 (fun H locs hI => ?_)
  refine lv_aload_n hx hb (dc tbX7_orders_k 3 rfl) rfl (lv_at hl 0 rfl) ?_
  obtain ⟨M5, r4, q3, hf⟩ := cal_s hf
  refine g_callVv hx hb hml hown hts hK hap hsx hI (tX7_layOrders l hk0 q3 H.size) cv_X7_layOrders q_t9_93 rfl rfl ⟨Nat.le_of_ble_eq_true rfl, Nat.le_of_ble_eq_true rfl⟩ hk0.1 (by simp) rfl rfl rfl hl.1 rfl (Nat.le_of_ble_eq_true rfl) (dc tbX7_orders_k 4 rfl) ⟨Nat.le_of_ble_eq_true rfl, Nat.le_of_ble_eq_true rfl⟩ (fun H locs hI => ?_)
  refine lv_aload_n hx hb (dc tbX7_orders_k 5 rfl) rfl (lv_at hl 0 rfl) ?_
  refine gg7_25 hx hb hts hown hK hI hk0.1 q_t7_101 (dc tbX7_orders_k 6 rfl) ?_
  refine lv_aload_n hx hb (dc tbX7_orders_k 7 rfl) rfl (lv_at hl 0 rfl) ?_
  refine gg7_0 hx hb hts hown hK hI hk0.1 q_t7_76 (dc tbX7_orders_k 8 rfl) ?_
  refine lv_bipush (v := 52) hx hb (dc tbX7_orders_k 9 rfl) bp_52 ?_
  obtain ⟨h6, hf⟩ := chk_s hf
  refine g_iald hx hb hK hI hk0.2.1 (okb_in h6) (dc tbX7_orders_k 10 rfl) ?_
  obtain ⟨h7, hf⟩ := chk_s hf
  refine g_lald hx hb hK hI hk0.2.2.2.2.2.2.2.2.2.2.2.2.1 (okb_in h7) (dc tbX7_orders_k 11 rfl) ?_
  cases hf
  exact g_lret hx hb hr hlk hI (dc tbX7_orders_k 12 rfl)
theorem cv_X7_orders : cvF RX7 yX7_orders cX7_orders 1 (some .long) 0 := ⟨q_t9_90, q_t9_91, q_t1_11, q_t9_92, by decide +kernel⟩
def mX7_leastNow (k0 : Nat) (M : Mem) : Option (Mem × Int32) := cal (mX7_layCosts k0 M) (fun M3 _ => cap (mX7_isOrder k0 M3) (fun r5 => ite2 (r5 = 0) (some (M3, (-1 : Int32))) (chk (okb (52 : Int32) 86) (cap (mX7_lastNow k0 M3) (fun r10 => chk (okb (((17 : Int32) * (rd M3 (k0 + 1) ((52 : Int32)).toNatClampNeg)) + r10) 4352) (some (M3, (rd M3 (k0 + 13) ((((17 : Int32) * (rd M3 (k0 + 1) ((52 : Int32)).toNatClampNeg)) + r10)).toNatClampNeg))))))))
set_option maxHeartbeats 4000000 in
set_option maxRecDepth 100000 in
theorem tX7_leastNow (l : Launch) {G : GT} {kd : Nat → Nat × Nat} {ad : Nat → Nat} {k0 : Nat} (hk0 : kModel kd k0) {M : Mem} {MO : Mem} {vo : Int32} (hf : mX7_leastNow k0 M = some (MO, vo)) (n : Nat) : Met l yX7_leastNow (Cond.code yX7_leastNow cX7_leastNow 1 (some .int) :: WA) (rmO 8 0 0) (Pg G kd ad n [.ref (ad k0)] M) (Qg G kd ad n MO (some (.int vo))) 0 0 (AS kd ad n) := by
  refine g_body (own := RX7) (by decide) rfl ?_ (Nat.le_of_ble_eq_true rfl)
  intro p e s m args below meth c C _ H locs ls hI hl
  obtain ⟨hx, hb, hml, hr, hown, hts, hlk, hK, hap, hsx⟩ := id C
  have hl : lv_has ls 1 [(0, .ref (ad k0))] := hl
  unfold mX7_leastNow at hf
  refine lv_aload_n hx hb (dc tbX7_leastNow_k 0 rfl) rfl (lv_at hl 0 rfl) ?_
  obtain ⟨M3, r2, q1, hf⟩ := cal_s hf
  refine g_callVv hx hb hml hown hts hK hap hsx hI (tX7_layCosts l hk0 q1 H.size) cv_X7_layCosts q_t9_113 rfl rfl ⟨Nat.le_of_ble_eq_true rfl, Nat.le_of_ble_eq_true rfl⟩ hk0.1 (by simp) rfl rfl rfl hl.1 rfl (Nat.le_of_ble_eq_true rfl) (dc tbX7_leastNow_k 1 rfl) ⟨Nat.le_of_ble_eq_true rfl, Nat.le_of_ble_eq_true rfl⟩ (fun H locs hI => ?_)
  refine lv_aload_n hx hb (dc tbX7_leastNow_k 2 rfl) rfl (lv_at hl 0 rfl) ?_
  obtain ⟨r5, q4, hf⟩ := cap_s hf
  refine g_callVi hx hb hml hown hts hK hap hsx hI (tX7_isOrder l hk0 q4 H.size) cv_X7_isOrder q_t9_127 rfl rfl ⟨Nat.le_of_ble_eq_true rfl, Nat.le_of_ble_eq_true rfl⟩ hk0.1 (by simp) rfl rfl rfl hl.1 rfl (Nat.le_of_ble_eq_true rfl) (dc tbX7_leastNow_k 3 rfl) ⟨Nat.le_of_ble_eq_true rfl, Nat.le_of_ble_eq_true rfl⟩ (fun H locs hI => ?_)
  refine lv_if_eq (tgt := 34) hx hb (dc tbX7_leastNow_k 4 rfl) rfl (fun c7 => ?_) (fun c7 => ?_)
  · have hf := ite_t c7 hf
    refine lv_iconst (v := -1) hx hb (dc tbX7_leastNow_k 18 rfl) ic_m1 ?_
    cases hf
    exact g_iret hx hb hr hlk hI (dc tbX7_leastNow_k 19 rfl)
  · have hf := ite_f c7 hf
    refine lv_aload_n hx hb (dc tbX7_leastNow_k 5 rfl) rfl (lv_at hl 0 rfl) ?_
    refine gg7_26 hx hb hts hown hK hI hk0.1 q_t7_102 (dc tbX7_leastNow_k 6 rfl) ?_
    refine lv_bipush (v := 17) hx hb (dc tbX7_leastNow_k 7 rfl) bp_17 ?_
    refine lv_aload_n hx hb (dc tbX7_leastNow_k 8 rfl) rfl (lv_at hl 0 rfl) ?_
    refine gg7_0 hx hb hts hown hK hI hk0.1 q_t7_76 (dc tbX7_leastNow_k 9 rfl) ?_
    refine lv_bipush (v := 52) hx hb (dc tbX7_leastNow_k 10 rfl) bp_52 ?_
    obtain ⟨h8, hf⟩ := chk_s hf
    refine g_iald hx hb hK hI hk0.2.1 (okb_in h8) (dc tbX7_leastNow_k 11 rfl) ?_
    refine lv_imul hx hb (dc tbX7_leastNow_k 12 rfl) ?_
    refine lv_aload_n hx hb (dc tbX7_leastNow_k 13 rfl) rfl (lv_at hl 0 rfl) ?_
    obtain ⟨r10, q9, hf⟩ := cap_s hf
    refine g_callVi hx hb hml hown hts hK hap hsx hI (tX7_lastNow l hk0 q9 H.size) cv_X7_lastNow q_t9_131 rfl rfl ⟨Nat.le_of_ble_eq_true rfl, Nat.le_of_ble_eq_true rfl⟩ hk0.1 (by simp) rfl rfl rfl hl.1 rfl (Nat.le_of_ble_eq_true rfl) (dc tbX7_leastNow_k 14 rfl) ⟨Nat.le_of_ble_eq_true rfl, Nat.le_of_ble_eq_true rfl⟩ (fun H locs hI => ?_)
    refine lv_iadd hx hb (dc tbX7_leastNow_k 15 rfl) ?_
    obtain ⟨h12, hf⟩ := chk_s hf
    refine g_iald hx hb hK hI hk0.2.2.2.2.2.2.2.2.2.2.2.2.2.1 (okb_in h12) (dc tbX7_leastNow_k 16 rfl) ?_
    refine lv_goto (tgt := 35) hx hb (dc tbX7_leastNow_k 17 rfl) rfl ?_
    cases hf
    exact g_iret hx hb hr hlk hI (dc tbX7_leastNow_k 19 rfl)
theorem cv_X7_leastNow : cvF RX7 yX7_leastNow cX7_leastNow 1 (some .int) 0 := ⟨q_t9_111, q_s6_9, q_t1_11, q_t9_112, by decide +kernel⟩
def mX7_leastCost (k0 : Nat) (M : Mem) : Option (Mem × Int32) := bnd (wr M k0 5 (0 : Int32)) (fun M1 => cal (mX7_leastNow k0 M1) (fun M5 r4 => some (M5, r4)))
set_option maxHeartbeats 4000000 in
set_option maxRecDepth 100000 in
theorem tX7_leastCost (l : Launch) {G : GT} {kd : Nat → Nat × Nat} {ad : Nat → Nat} {k0 : Nat} (hk0 : kModel kd k0) {M : Mem} {MO : Mem} {vo : Int32} (hf : mX7_leastCost k0 M = some (MO, vo)) (n : Nat) : Met l yX7_leastCost (Cond.code yX7_leastCost cX7_leastCost 1 (some .int) :: WA) (rmO 9 0 0) (Pg G kd ad n [.ref (ad k0)] M) (Qg G kd ad n MO (some (.int vo))) 0 0 (AS kd ad n) := by
  refine g_body (own := RX7) (by decide) rfl ?_ (Nat.le_of_ble_eq_true rfl)
  intro p e s m args below meth c C _ H locs ls hI hl
  obtain ⟨hx, hb, hml, hr, hown, hts, hlk, hK, hap, hsx⟩ := id C
  have hl : lv_has ls 1 [(0, .ref (ad k0))] := hl
  unfold mX7_leastCost at hf
  refine lv_aload_n hx hb (dc tbX7_leastCost_k 0 rfl) rfl (lv_at hl 0 rfl) ?_
  refine lv_iconst (v := 0) hx hb (dc tbX7_leastCost_k 1 rfl) ic_0 ?_
  obtain ⟨M1, e2, hf⟩ := bnd_s hf
  refine gp7_5 hx hb hts hown hK hap hI hk0.1 q_t7_81 (dc tbX7_leastCost_k 2 rfl) e2 (fun H locs hI => ?_)
  refine lv_aload_n hx hb (dc tbX7_leastCost_k 3 rfl) rfl (lv_at hl 0 rfl) ?_
  obtain ⟨M5, r4, q3, hf⟩ := cal_s hf
  refine g_callVi hx hb hml hown hts hK hap hsx hI (tX7_leastNow l hk0 q3 H.size) cv_X7_leastNow q_t9_109 rfl rfl ⟨Nat.le_of_ble_eq_true rfl, Nat.le_of_ble_eq_true rfl⟩ hk0.1 (by simp) rfl rfl rfl hl.1 rfl (Nat.le_of_ble_eq_true rfl) (dc tbX7_leastCost_k 4 rfl) ⟨Nat.le_of_ble_eq_true rfl, Nat.le_of_ble_eq_true rfl⟩ (fun H locs hI => ?_)
  cases hf
  exact g_iret hx hb hr hlk hI (dc tbX7_leastCost_k 5 rfl)
theorem cv_X7_leastCost : cvF RX7 yX7_leastCost cX7_leastCost 1 (some .int) 0 := ⟨q_t9_106, q_t9_107, q_t1_11, q_t9_108, by decide +kernel⟩
def mX7_unmade_b34 (k0 : Nat) (M : Mem) (ih4 : Int32 → Int32 → Option Int32) (x2 : Int32) (y0 : Int32) (y1 : Int32) : Option Int32 := bnd ((y0 + y1)) (fun x1_35 => bnd (x2 + (1 : Int32)) (fun x2_36 => ih4 x1_35 x2_36))
set_option maxHeartbeats 4000000 in
set_option maxRecDepth 100000 in
theorem tX7_unmade_b34 {p : Program} {l : Launch} {e : Env} {s : State} {m : MethodId} {args : Array Value} {below : List Frame} {meth : Method} {c : Code} {G : GT} {kd : Nat → Nat × Nat} {ad : Nat → Nat} (C : Cx p s m args meth c cX7_unmade 3 (some .int) RX7 G kd ad) {k0 : Nat} (hk0 : kModel kd k0) {M : Mem} {vo : Int32} {ih4 : Int32 → Int32 → Option Int32} (hih4 : ∀ (x1 : Int32) (x2 : Int32), ih4 x1 x2 = some vo → At p l e (rmO 1 0 0) s m args below meth c 0 0 (MQ below (Qg G kd ad s.heap.size M (some (.int vo))) args s 0 0 (AS kd ad s.heap.size)) G kd ad 3 4 [(0, .ref (ad k0)), (1, .int x1), (2, .int x2)] [] M) : ∀ (x2 : Int32) (y0 : Int32) (y1 : Int32), mX7_unmade_b34 k0 M ih4 x2 y0 y1 = some vo → At p l e (rmO 1 0 0) s m args below meth c 0 0 (MQ below (Qg G kd ad s.heap.size M (some (.int vo))) args s 0 0 (AS kd ad s.heap.size)) G kd ad 3 34 [(0, .ref (ad k0)), (2, .int x2)] [.int y1, .int y0] M := by
  intro x2 y0 y1 hf H locs ls hI hl
  obtain ⟨hx, hb, hml, hr, hown, hts, hlk, hK, hap, hsx⟩ := id C
  unfold mX7_unmade_b34 at hf
  refine lv_iadd hx hb (dc tbX7_unmade_k 21 rfl) ?_
  obtain ⟨x1_35, e8, hf⟩ := bnd_s hf
  refine lv_ei e8 ?_
  refine lv_istore_n (lv' := [(1, .int x1_35), (0, .ref (ad k0)), (2, .int x2)]) hx hb (dc tbX7_unmade_k 22 rfl) rfl hl (by decide) rfl (fun ls hl => ?_)
  obtain ⟨x2_36, e9, hf⟩ := bnd_s hf
  refine lv_iinc (v := x2_36) (lv' := [(2, .int x2_36), (1, .int x1_35), (0, .ref (ad k0))]) hx hb (dc tbX7_unmade_k 23 rfl) hl (k := 2) rfl (ii_e e9 ic_1) (by decide) rfl (fun ls hl => ?_)
  refine lv_goto (tgt := 4) hx hb (dc tbX7_unmade_k 24 rfl) rfl ?_
  exact hih4 x1_35 x2_36 hf _ _ _ hI (lv_sub hl [2, 1, 0] rfl)
def mX7_unmade_b4 (k0 : Nat) (M : Mem) (ih4 : Int32 → Int32 → Option Int32) (x1 : Int32) (x2 : Int32) : Option Int32 := chk (okb (0 : Int32) 86) (ite2 ((rd M (k0 + 1) ((0 : Int32)).toNatClampNeg) ≤ x2) (some x1) (chk (okb (52 : Int32) 86) (cap (mX7_has (rd M (k0 + 1) ((52 : Int32)).toNatClampNeg) x2 M) (fun r5 => ite2 (r5 = 0) (mX7_unmade_b34 k0 M ih4 x2 x1 (1 : Int32)) (mX7_unmade_b34 k0 M ih4 x2 x1 (0 : Int32))))))
set_option maxHeartbeats 4000000 in
set_option maxRecDepth 100000 in
theorem tX7_unmade_b4 {p : Program} {l : Launch} {e : Env} {s : State} {m : MethodId} {args : Array Value} {below : List Frame} {meth : Method} {c : Code} {G : GT} {kd : Nat → Nat × Nat} {ad : Nat → Nat} (C : Cx p s m args meth c cX7_unmade 3 (some .int) RX7 G kd ad) {k0 : Nat} (hk0 : kModel kd k0) {M : Mem} {vo : Int32} {ih4 : Int32 → Int32 → Option Int32} (hih4 : ∀ (x1 : Int32) (x2 : Int32), ih4 x1 x2 = some vo → At p l e (rmO 1 0 0) s m args below meth c 0 0 (MQ below (Qg G kd ad s.heap.size M (some (.int vo))) args s 0 0 (AS kd ad s.heap.size)) G kd ad 3 4 [(0, .ref (ad k0)), (1, .int x1), (2, .int x2)] [] M) : ∀ (x1 : Int32) (x2 : Int32), mX7_unmade_b4 k0 M ih4 x1 x2 = some vo → At p l e (rmO 1 0 0) s m args below meth c 0 0 (MQ below (Qg G kd ad s.heap.size M (some (.int vo))) args s 0 0 (AS kd ad s.heap.size)) G kd ad 3 4 [(0, .ref (ad k0)), (1, .int x1), (2, .int x2)] [] M := by
  intro x1 x2 hf H locs ls hI hl
  obtain ⟨hx, hb, hml, hr, hown, hts, hlk, hK, hap, hsx⟩ := id C
  unfold mX7_unmade_b4 at hf
  refine lv_iload_n hx hb (dc tbX7_unmade_k 4 rfl) rfl (lv_at hl 2 rfl) ?_
  refine lv_aload_n hx hb (dc tbX7_unmade_k 5 rfl) rfl (lv_at hl 0 rfl) ?_
  refine gg7_0 hx hb hts hown hK hI hk0.1 q_t7_76 (dc tbX7_unmade_k 6 rfl) ?_
  refine lv_iconst (v := 0) hx hb (dc tbX7_unmade_k 7 rfl) ic_0 ?_
  obtain ⟨h1, hf⟩ := chk_s hf
  refine g_iald hx hb hK hI hk0.2.1 (okb_in h1) (dc tbX7_unmade_k 8 rfl) ?_
  refine lv_icmp_ge (tgt := 42) hx hb (dc tbX7_unmade_k 9 rfl) rfl (fun c2 => ?_) (fun c2 => ?_)
  · have hf := ite_t c2 hf
    refine lv_iload_n hx hb (dc tbX7_unmade_k 25 rfl) rfl (lv_at hl 1 rfl) ?_
    cases hf
    exact g_iret hx hb hr hlk hI (dc tbX7_unmade_k 26 rfl)
  · have hf := ite_f c2 hf
    refine lv_iload_n hx hb (dc tbX7_unmade_k 10 rfl) rfl (lv_at hl 1 rfl) ?_
    refine lv_aload_n hx hb (dc tbX7_unmade_k 11 rfl) rfl (lv_at hl 0 rfl) ?_
    refine gg7_0 hx hb hts hown hK hI hk0.1 q_t7_76 (dc tbX7_unmade_k 12 rfl) ?_
    refine lv_bipush (v := 52) hx hb (dc tbX7_unmade_k 13 rfl) bp_52 ?_
    obtain ⟨h3, hf⟩ := chk_s hf
    refine g_iald hx hb hK hI hk0.2.1 (okb_in h3) (dc tbX7_unmade_k 14 rfl) ?_
    refine lv_iload_n hx hb (dc tbX7_unmade_k 15 rfl) rfl (lv_at hl 2 rfl) ?_
    obtain ⟨r5, q4, hf⟩ := cap_s hf
    refine g_callSi hx hb hml hown hts hK hap hsx hI (tX7_has l  q4 H.size) cs_X7_has q_t8_226 rfl rfl ⟨Nat.le_of_ble_eq_true rfl, Nat.le_of_ble_eq_true rfl⟩ rfl hl.1 rfl (Nat.le_of_ble_eq_true rfl) (dc tbX7_unmade_k 16 rfl) ⟨Nat.le_of_ble_eq_true rfl, Nat.le_of_ble_eq_true rfl⟩ (fun H locs hI => ?_)
    refine lv_if_eq (tgt := 33) hx hb (dc tbX7_unmade_k 17 rfl) rfl (fun c7 => ?_) (fun c7 => ?_)
    · have hf := ite_t c7 hf
      refine lv_iconst (v := 1) hx hb (dc tbX7_unmade_k 20 rfl) ic_1 ?_
      exact tX7_unmade_b34 C hk0 hih4 x2 x1 (1 : Int32) hf _ _ _ hI (lv_sub hl [0, 2] rfl)
    · have hf := ite_f c7 hf
      refine lv_iconst (v := 0) hx hb (dc tbX7_unmade_k 18 rfl) ic_0 ?_
      refine lv_goto (tgt := 34) hx hb (dc tbX7_unmade_k 19 rfl) rfl ?_
      exact tX7_unmade_b34 C hk0 hih4 x2 x1 (0 : Int32) hf _ _ _ hI (lv_sub hl [0, 2] rfl)
def mX7_unmade_l4 (k0 : Nat) (M : Mem) : Nat → Int32 → Int32 → Option Int32
  | 0 => fun _ _ => none
  | n + 1 => mX7_unmade_b4 k0 M (mX7_unmade_l4 k0 M n)
theorem tX7_unmade_l4 {p : Program} {l : Launch} {e : Env} {s : State} {m : MethodId} {args : Array Value} {below : List Frame} {meth : Method} {c : Code} {G : GT} {kd : Nat → Nat × Nat} {ad : Nat → Nat} (C : Cx p s m args meth c cX7_unmade 3 (some .int) RX7 G kd ad) {k0 : Nat} (hk0 : kModel kd k0) {M : Mem} {vo : Int32}   : ∀ (fuel : Nat) (x1 : Int32) (x2 : Int32), mX7_unmade_l4 k0 M fuel x1 x2 = some vo → At p l e (rmO 1 0 0) s m args below meth c 0 0 (MQ below (Qg G kd ad s.heap.size M (some (.int vo))) args s 0 0 (AS kd ad s.heap.size)) G kd ad 3 4 [(0, .ref (ad k0)), (1, .int x1), (2, .int x2)] [] M := by
  intro fuel
  induction fuel with
  | zero => intro x1 x2 hf; cases hf
  | succ n IH => exact tX7_unmade_b4 C hk0 IH
def mX7_unmade (k0 : Nat) (M : Mem) : Option Int32 := mX7_unmade_l4 k0 M 5000 (0 : Int32) (0 : Int32)
set_option maxHeartbeats 4000000 in
set_option maxRecDepth 100000 in
theorem tX7_unmade (l : Launch) {G : GT} {kd : Nat → Nat × Nat} {ad : Nat → Nat} {k0 : Nat} (hk0 : kModel kd k0) {M : Mem} {vo : Int32} (hf : mX7_unmade k0 M = some vo) (n : Nat) : Met l yX7_unmade (Cond.code yX7_unmade cX7_unmade 3 (some .int) :: WA) (rmO 1 0 0) (Pg G kd ad n [.ref (ad k0)] M) (Qg G kd ad n M (some (.int vo))) 0 0 (AS kd ad n) := by
  refine g_body (own := RX7) (by decide) rfl ?_ (Nat.le_of_ble_eq_true rfl)
  intro p e s m args below meth c C _ H locs ls hI hl
  obtain ⟨hx, hb, hml, hr, hown, hts, hlk, hK, hap, hsx⟩ := id C
  have hl : lv_has ls 3 [(0, .ref (ad k0))] := hl
  unfold mX7_unmade at hf
  refine lv_iconst (v := 0) hx hb (dc tbX7_unmade_k 0 rfl) ic_0 ?_
  refine lv_istore_n (lv' := [(1, .int (0 : Int32)), (0, .ref (ad k0))]) hx hb (dc tbX7_unmade_k 1 rfl) rfl hl (by decide) rfl (fun ls hl => ?_)
  refine lv_iconst (v := 0) hx hb (dc tbX7_unmade_k 2 rfl) ic_0 ?_
  refine lv_istore_n (lv' := [(2, .int (0 : Int32)), (1, .int (0 : Int32)), (0, .ref (ad k0))]) hx hb (dc tbX7_unmade_k 3 rfl) rfl hl (by decide) rfl (fun ls hl => ?_)
  exact tX7_unmade_l4 C hk0 5000 (0 : Int32) (0 : Int32) hf _ _ _ hI (lv_sub hl [2, 1, 0] rfl)
theorem cv_X7_unmade : cvF RX7 yX7_unmade cX7_unmade 3 (some .int) 0 := ⟨q_t9_141, q_s6_15, q_t1_11, q_t9_142, by decide +kernel⟩
def mX7_plannedSteps (k0 : Nat) (M : Mem) : Option (Mem × Int32) := bnd (wr M k0 5 (0 : Int32)) (fun M1 => cal (mX7_layOrders k0 M1) (fun M5 _ => cap (mX7_isOrder k0 M5) (fun r7 => ite2 (r7 = 0) (some (M5, (-1 : Int32))) (cap (mX7_unmade k0 M5) (fun r11 => some (M5, r11))))))
set_option maxHeartbeats 4000000 in
set_option maxRecDepth 100000 in
theorem tX7_plannedSteps (l : Launch) {G : GT} {kd : Nat → Nat × Nat} {ad : Nat → Nat} {k0 : Nat} (hk0 : kModel kd k0) {M : Mem} {MO : Mem} {vo : Int32} (hf : mX7_plannedSteps k0 M = some (MO, vo)) (n : Nat) : Met l yX7_plannedSteps (Cond.code yX7_plannedSteps cX7_plannedSteps 1 (some .int) :: WA) (rmO 7 0 0) (Pg G kd ad n [.ref (ad k0)] M) (Qg G kd ad n MO (some (.int vo))) 0 0 (AS kd ad n) := by
  refine g_body (own := RX7) (by decide) rfl ?_ (Nat.le_of_ble_eq_true rfl)
  intro p e s m args below meth c C _ H locs ls hI hl
  obtain ⟨hx, hb, hml, hr, hown, hts, hlk, hK, hap, hsx⟩ := id C
  have hl : lv_has ls 1 [(0, .ref (ad k0))] := hl
  unfold mX7_plannedSteps at hf
  refine lv_aload_n hx hb (dc tbX7_plannedSteps_k 0 rfl) rfl (lv_at hl 0 rfl) ?_
  refine lv_iconst (v := 0) hx hb (dc tbX7_plannedSteps_k 1 rfl) ic_0 ?_
  obtain ⟨M1, e2, hf⟩ := bnd_s hf
  refine gp7_5 hx hb hts hown hK hap hI hk0.1 q_t7_81 (dc tbX7_plannedSteps_k 2 rfl) e2 (fun H locs hI => ?_)
  refine lv_aload_n hx hb (dc tbX7_plannedSteps_k 3 rfl) rfl (lv_at hl 0 rfl) ?_
  obtain ⟨M5, r4, q3, hf⟩ := cal_s hf
  refine g_callVv hx hb hml hown hts hK hap hsx hI (tX7_layOrders l hk0 q3 H.size) cv_X7_layOrders q_t9_93 rfl rfl ⟨Nat.le_of_ble_eq_true rfl, Nat.le_of_ble_eq_true rfl⟩ hk0.1 (by simp) rfl rfl rfl hl.1 rfl (Nat.le_of_ble_eq_true rfl) (dc tbX7_plannedSteps_k 4 rfl) ⟨Nat.le_of_ble_eq_true rfl, Nat.le_of_ble_eq_true rfl⟩ (fun H locs hI => ?_)
  refine lv_aload_n hx hb (dc tbX7_plannedSteps_k 5 rfl) rfl (lv_at hl 0 rfl) ?_
  obtain ⟨r7, q6, hf⟩ := cap_s hf
  refine g_callVi hx hb hml hown hts hK hap hsx hI (tX7_isOrder l hk0 q6 H.size) cv_X7_isOrder q_t9_127 rfl rfl ⟨Nat.le_of_ble_eq_true rfl, Nat.le_of_ble_eq_true rfl⟩ hk0.1 (by simp) rfl rfl rfl hl.1 rfl (Nat.le_of_ble_eq_true rfl) (dc tbX7_plannedSteps_k 6 rfl) ⟨Nat.le_of_ble_eq_true rfl, Nat.le_of_ble_eq_true rfl⟩ (fun H locs hI => ?_)
  refine lv_if_eq (tgt := 23) hx hb (dc tbX7_plannedSteps_k 7 rfl) rfl (fun c9 => ?_) (fun c9 => ?_)
  · have hf := ite_t c9 hf
    refine lv_iconst (v := -1) hx hb (dc tbX7_plannedSteps_k 11 rfl) ic_m1 ?_
    cases hf
    exact g_iret hx hb hr hlk hI (dc tbX7_plannedSteps_k 12 rfl)
  · have hf := ite_f c9 hf
    refine lv_aload_n hx hb (dc tbX7_plannedSteps_k 8 rfl) rfl (lv_at hl 0 rfl) ?_
    obtain ⟨r11, q10, hf⟩ := cap_s hf
    refine g_callVi hx hb hml hown hts hK hap hsx hI (tX7_unmade l hk0 q10 H.size) cv_X7_unmade q_t9_139 rfl rfl ⟨Nat.le_of_ble_eq_true rfl, Nat.le_of_ble_eq_true rfl⟩ hk0.1 (by simp) rfl rfl rfl hl.1 rfl (Nat.le_of_ble_eq_true rfl) (dc tbX7_plannedSteps_k 9 rfl) ⟨Nat.le_of_ble_eq_true rfl, Nat.le_of_ble_eq_true rfl⟩ (fun H locs hI => ?_)
    refine lv_goto (tgt := 24) hx hb (dc tbX7_plannedSteps_k 10 rfl) rfl ?_
    cases hf
    exact g_iret hx hb hr hlk hI (dc tbX7_plannedSteps_k 12 rfl)
theorem cv_X7_plannedSteps : cvF RX7 yX7_plannedSteps cX7_plannedSteps 1 (some .int) 0 := ⟨q_t9_136, q_t9_137, q_t1_11, q_t9_138, by decide +kernel⟩
def mX7_bestStep_b125 (k0 : Nat) (M : Mem) (ih2 : Int32 → Int32 → Int32 → Option Int32) (x1 : Int32) (x2 : Int32) (x3 : Int32) : Option Int32 := bnd (x3 + (1 : Int32)) (fun x3_125 => ih2 x1 x2 x3_125)
set_option maxHeartbeats 4000000 in
set_option maxRecDepth 100000 in
theorem tX7_bestStep_b125 {p : Program} {l : Launch} {e : Env} {s : State} {m : MethodId} {args : Array Value} {below : List Frame} {meth : Method} {c : Code} {G : GT} {kd : Nat → Nat × Nat} {ad : Nat → Nat} (C : Cx p s m args meth c cX7_bestStep 6 (some .int) RX7 G kd ad) {k0 : Nat} (hk0 : kModel kd k0) {M : Mem} {vo : Int32} {ih2 : Int32 → Int32 → Int32 → Option Int32} (hih2 : ∀ (x1 : Int32) (x2 : Int32) (x3 : Int32), ih2 x1 x2 x3 = some vo → At p l e (rmO 1 0 0) s m args below meth c 0 0 (MQ below (Qg G kd ad s.heap.size M (some (.int vo))) args s 0 0 (AS kd ad s.heap.size)) G kd ad 6 2 [(0, .ref (ad k0)), (1, .int x1), (2, .int x2), (3, .int x3)] [] M) : ∀ (x1 : Int32) (x2 : Int32) (x3 : Int32), mX7_bestStep_b125 k0 M ih2 x1 x2 x3 = some vo → At p l e (rmO 1 0 0) s m args below meth c 0 0 (MQ below (Qg G kd ad s.heap.size M (some (.int vo))) args s 0 0 (AS kd ad s.heap.size)) G kd ad 6 125 [(0, .ref (ad k0)), (1, .int x1), (2, .int x2), (3, .int x3)] [] M := by
  intro x1 x2 x3 hf H locs ls hI hl
  obtain ⟨hx, hb, hml, hr, hown, hts, hlk, hK, hap, hsx⟩ := id C
  unfold mX7_bestStep_b125 at hf
  obtain ⟨x3_125, e6, hf⟩ := bnd_s hf
  refine lv_iinc (v := x3_125) (lv' := [(3, .int x3_125), (0, .ref (ad k0)), (1, .int x1), (2, .int x2)]) hx hb (dc tbX7_bestStep_2_k 7 rfl) hl (k := 3) rfl (ii_e e6 ic_1) (by decide) rfl (fun ls hl => ?_)
  refine lv_goto (tgt := 2) hx hb (dc tbX7_bestStep_2_k 8 rfl) rfl ?_
  exact hih2 x1 x2 x3_125 hf _ _ _ hI (lv_sub hl [1, 2, 3, 0] rfl)
def mX7_bestStep_b92 (k0 : Nat) (M : Mem) (ih2 : Int32 → Int32 → Int32 → Option Int32) (x1 : Int32) (x2 : Int32) (x3 : Int32) (x4 : Int32) (y0 : Int32) : Option Int32 := chk (okb (((17 : Int32) * x4) + x3) 4352) (chk (okb (((17 : Int32) * x1) + x2) 4352) (ite2 ((y0 + (rd M (k0 + 13) ((((17 : Int32) * x4) + x3)).toNatClampNeg)) = (rd M (k0 + 13) ((((17 : Int32) * x1) + x2)).toNatClampNeg)) (some x3) (mX7_bestStep_b125 k0 M ih2 x1 x2 x3)))
set_option maxHeartbeats 4000000 in
set_option maxRecDepth 100000 in
theorem tX7_bestStep_b92 {p : Program} {l : Launch} {e : Env} {s : State} {m : MethodId} {args : Array Value} {below : List Frame} {meth : Method} {c : Code} {G : GT} {kd : Nat → Nat × Nat} {ad : Nat → Nat} (C : Cx p s m args meth c cX7_bestStep 6 (some .int) RX7 G kd ad) {k0 : Nat} (hk0 : kModel kd k0) {M : Mem} {vo : Int32} {ih2 : Int32 → Int32 → Int32 → Option Int32} (hih2 : ∀ (x1 : Int32) (x2 : Int32) (x3 : Int32), ih2 x1 x2 x3 = some vo → At p l e (rmO 1 0 0) s m args below meth c 0 0 (MQ below (Qg G kd ad s.heap.size M (some (.int vo))) args s 0 0 (AS kd ad s.heap.size)) G kd ad 6 2 [(0, .ref (ad k0)), (1, .int x1), (2, .int x2), (3, .int x3)] [] M) : ∀ (x1 : Int32) (x2 : Int32) (x3 : Int32) (x4 : Int32) (y0 : Int32), mX7_bestStep_b92 k0 M ih2 x1 x2 x3 x4 y0 = some vo → At p l e (rmO 1 0 0) s m args below meth c 0 0 (MQ below (Qg G kd ad s.heap.size M (some (.int vo))) args s 0 0 (AS kd ad s.heap.size)) G kd ad 6 92 [(0, .ref (ad k0)), (1, .int x1), (2, .int x2), (3, .int x3), (4, .int x4)] [.int y0] M := by
  intro x1 x2 x3 x4 y0 hf H locs ls hI hl
  obtain ⟨hx, hb, hml, hr, hown, hts, hlk, hK, hap, hsx⟩ := id C
  unfold mX7_bestStep_b92 at hf
  refine lv_istore (lv' := [(5, .int y0), (0, .ref (ad k0)), (1, .int x1), (2, .int x2), (3, .int x3), (4, .int x4)]) hx hb (dc tbX7_bestStep_1_k 25 rfl) hl (by decide) rfl (fun ls hl => ?_)
  refine lv_iload hx hb (dc tbX7_bestStep_1_k 26 rfl) (lv_at hl 0 rfl) ?_
  refine lv_aload_n hx hb (dc tbX7_bestStep_1_k 27 rfl) rfl (lv_at hl 1 rfl) ?_
  refine gg7_26 hx hb hts hown hK hI hk0.1 q_t7_102 (dc tbX7_bestStep_1_k 28 rfl) ?_
  refine lv_bipush (v := 17) hx hb (dc tbX7_bestStep_1_k 29 rfl) bp_17 ?_
  refine lv_iload hx hb (dc tbX7_bestStep_1_k 30 rfl) (lv_at hl 5 rfl) ?_
  refine lv_imul hx hb (dc tbX7_bestStep_1_k 31 rfl) ?_
  refine lv_iload_n hx hb (dc tbX7_bestStep_1_k 32 rfl) rfl (lv_at hl 4 rfl) ?_
  refine lv_iadd hx hb (dc tbX7_bestStep_1_k 33 rfl) ?_
  obtain ⟨h17, hf⟩ := chk_s hf
  refine g_iald hx hb hK hI hk0.2.2.2.2.2.2.2.2.2.2.2.2.2.1 (okb_in h17) (dc tbX7_bestStep_1_k 34 rfl) ?_
  refine lv_iadd hx hb (dc tbX7_bestStep_1_k 35 rfl) ?_
  refine lv_aload_n hx hb (dc tbX7_bestStep_1_k 36 rfl) rfl (lv_at hl 1 rfl) ?_
  refine gg7_26 hx hb hts hown hK hI hk0.1 q_t7_102 (dc tbX7_bestStep_1_k 37 rfl) ?_
  refine lv_bipush (v := 17) hx hb (dc tbX7_bestStep_1_k 38 rfl) bp_17 ?_
  refine lv_iload_n hx hb (dc tbX7_bestStep_1_k 39 rfl) rfl (lv_at hl 2 rfl) ?_
  refine lv_imul hx hb (dc tbX7_bestStep_2_k 0 rfl) ?_
  refine lv_iload_n hx hb (dc tbX7_bestStep_2_k 1 rfl) rfl (lv_at hl 3 rfl) ?_
  refine lv_iadd hx hb (dc tbX7_bestStep_2_k 2 rfl) ?_
  obtain ⟨h18, hf⟩ := chk_s hf
  refine g_iald hx hb hK hI hk0.2.2.2.2.2.2.2.2.2.2.2.2.2.1 (okb_in h18) (dc tbX7_bestStep_2_k 3 rfl) ?_
  refine lv_icmp_ne (tgt := 125) hx hb (dc tbX7_bestStep_2_k 4 rfl) rfl (fun c19 => ?_) (fun c19 => ?_)
  · have hf := ite_f c19 hf
    exact tX7_bestStep_b125 C hk0 hih2 x1 x2 x3 hf _ _ _ hI (lv_sub hl [1, 2, 3, 4] rfl)
  · have hf := ite_t c19 hf
    refine lv_iload_n hx hb (dc tbX7_bestStep_2_k 5 rfl) rfl (lv_at hl 4 rfl) ?_
    cases hf
    exact g_iret hx hb hr hlk hI (dc tbX7_bestStep_2_k 6 rfl)
def mX7_bestStep_b2 (k0 : Nat) (M : Mem) (ih2 : Int32 → Int32 → Int32 → Option Int32) (x1 : Int32) (x2 : Int32) (x3 : Int32) : Option Int32 := chk (okb (0 : Int32) 86) (ite2 (((2 : Int32) * (rd M (k0 + 1) ((0 : Int32)).toNatClampNeg)) ≤ x3) (some (-1 : Int32)) (bnd ((x1 ||| ((1 : Int32) <<< ((x3 / (2 : Int32)) &&& 31)))) (fun x4_21 => chk (okb (((16 : Int32) * x1) + x3) 4096) (ite2 ((rd M (k0 + 10) ((((16 : Int32) * x1) + x3)).toNatClampNeg) = 0) (mX7_bestStep_b125 k0 M ih2 x1 x2 x3) (chk (okb x4_21 256) (ite2 ((lg_cmp (rl M (k0 + 12) (x4_21).toNatClampNeg) (0 : Int64)) ≤ 0) (mX7_bestStep_b125 k0 M ih2 x1 x2 x3) (ite2 (x2 = (16 : Int32)) (mX7_bestStep_b92 k0 M ih2 x1 x2 x3 x4_21 (0 : Int32)) (cap (mX7_gaugeLast k0 x1 x2 M) (fun r11 => chk (okb (((16 : Int32) * x1) + x3) 4096) (cap (mX7_costBehind k0 (x2 / (2 : Int32)) (x2 - x2 / (2 : Int32) * (2 : Int32)) r11 (x3 / (2 : Int32)) (x3 - x3 / (2 : Int32) * (2 : Int32)) (rd M (k0 + 11) ((((16 : Int32) * x1) + x3)).toNatClampNeg) M) (fun r15 => mX7_bestStep_b92 k0 M ih2 x1 x2 x3 x4_21 r15)))))))))))
set_option maxHeartbeats 4000000 in
set_option maxRecDepth 100000 in
theorem tX7_bestStep_b2 {p : Program} {l : Launch} {e : Env} {s : State} {m : MethodId} {args : Array Value} {below : List Frame} {meth : Method} {c : Code} {G : GT} {kd : Nat → Nat × Nat} {ad : Nat → Nat} (C : Cx p s m args meth c cX7_bestStep 6 (some .int) RX7 G kd ad) {k0 : Nat} (hk0 : kModel kd k0) {M : Mem} {vo : Int32} {ih2 : Int32 → Int32 → Int32 → Option Int32} (hih2 : ∀ (x1 : Int32) (x2 : Int32) (x3 : Int32), ih2 x1 x2 x3 = some vo → At p l e (rmO 1 0 0) s m args below meth c 0 0 (MQ below (Qg G kd ad s.heap.size M (some (.int vo))) args s 0 0 (AS kd ad s.heap.size)) G kd ad 6 2 [(0, .ref (ad k0)), (1, .int x1), (2, .int x2), (3, .int x3)] [] M) : ∀ (x1 : Int32) (x2 : Int32) (x3 : Int32), mX7_bestStep_b2 k0 M ih2 x1 x2 x3 = some vo → At p l e (rmO 1 0 0) s m args below meth c 0 0 (MQ below (Qg G kd ad s.heap.size M (some (.int vo))) args s 0 0 (AS kd ad s.heap.size)) G kd ad 6 2 [(0, .ref (ad k0)), (1, .int x1), (2, .int x2), (3, .int x3)] [] M := by
  intro x1 x2 x3 hf H locs ls hI hl
  obtain ⟨hx, hb, hml, hr, hown, hts, hlk, hK, hap, hsx⟩ := id C
  unfold mX7_bestStep_b2 at hf
  refine lv_iload_n hx hb (dc tbX7_bestStep_0_k 2 rfl) rfl (lv_at hl 3 rfl) ?_
  refine lv_iconst (v := 2) hx hb (dc tbX7_bestStep_0_k 3 rfl) ic_2 ?_
  refine lv_aload_n hx hb (dc tbX7_bestStep_0_k 4 rfl) rfl (lv_at hl 0 rfl) ?_
  refine gg7_0 hx hb hts hown hK hI hk0.1 q_t7_76 (dc tbX7_bestStep_0_k 5 rfl) ?_
  refine lv_iconst (v := 0) hx hb (dc tbX7_bestStep_0_k 6 rfl) ic_0 ?_
  obtain ⟨h1, hf⟩ := chk_s hf
  refine g_iald hx hb hK hI hk0.2.1 (okb_in h1) (dc tbX7_bestStep_0_k 7 rfl) ?_
  refine lv_imul hx hb (dc tbX7_bestStep_0_k 8 rfl) ?_
  refine lv_icmp_ge (tgt := 131) hx hb (dc tbX7_bestStep_0_k 9 rfl) rfl (fun c2 => ?_) (fun c2 => ?_)
  · have hf := ite_t c2 hf
    refine lv_iconst (v := -1) hx hb (dc tbX7_bestStep_2_k 9 rfl) ic_m1 ?_
    cases hf
    exact g_iret hx hb hr hlk hI (dc tbX7_bestStep_2_k 10 rfl)
  · have hf := ite_f c2 hf
    refine lv_iload_n hx hb (dc tbX7_bestStep_0_k 10 rfl) rfl (lv_at hl 1 rfl) ?_
    refine lv_iconst (v := 1) hx hb (dc tbX7_bestStep_0_k 11 rfl) ic_1 ?_
    refine lv_iload_n hx hb (dc tbX7_bestStep_0_k 12 rfl) rfl (lv_at hl 3 rfl) ?_
    refine lv_iconst (v := 2) hx hb (dc tbX7_bestStep_0_k 13 rfl) ic_2 ?_
    refine lv_idiv hx hb (dc tbX7_bestStep_0_k 14 rfl) (by decide) ?_
    refine lv_ishl hx hb (dc tbX7_bestStep_0_k 15 rfl) ?_
    refine lv_ior hx hb (dc tbX7_bestStep_0_k 16 rfl) ?_
    obtain ⟨x4_21, e3, hf⟩ := bnd_s hf
    refine lv_ei e3 ?_
    refine lv_istore (lv' := [(4, .int x4_21), (0, .ref (ad k0)), (1, .int x1), (2, .int x2), (3, .int x3)]) hx hb (dc tbX7_bestStep_0_k 17 rfl) hl (by decide) rfl (fun ls hl => ?_)
    refine lv_aload_n hx hb (dc tbX7_bestStep_0_k 18 rfl) rfl (lv_at hl 1 rfl) ?_
    refine gg7_23 hx hb hts hown hK hI hk0.1 q_t7_99 (dc tbX7_bestStep_0_k 19 rfl) ?_
    refine lv_bipush (v := 16) hx hb (dc tbX7_bestStep_0_k 20 rfl) bp_16 ?_
    refine lv_iload_n hx hb (dc tbX7_bestStep_0_k 21 rfl) rfl (lv_at hl 2 rfl) ?_
    refine lv_imul hx hb (dc tbX7_bestStep_0_k 22 rfl) ?_
    refine lv_iload_n hx hb (dc tbX7_bestStep_0_k 23 rfl) rfl (lv_at hl 4 rfl) ?_
    refine lv_iadd hx hb (dc tbX7_bestStep_0_k 24 rfl) ?_
    obtain ⟨h4, hf⟩ := chk_s hf
    refine g_zald hx hb hK hI hk0.2.2.2.2.2.2.2.2.2.2.1 (okb_in h4) (dc tbX7_bestStep_0_k 25 rfl) ?_
    refine lv_if_eq (tgt := 125) hx hb (dc tbX7_bestStep_0_k 26 rfl) rfl (fun c5 => ?_) (fun c5 => ?_)
    · have hf := ite_t c5 hf
      exact tX7_bestStep_b125 C hk0 hih2 x1 x2 x3 hf _ _ _ hI (lv_sub hl [1, 2, 3, 4] rfl)
    · have hf := ite_f c5 hf
      refine lv_aload_n hx hb (dc tbX7_bestStep_0_k 27 rfl) rfl (lv_at hl 1 rfl) ?_
      refine gg7_25 hx hb hts hown hK hI hk0.1 q_t7_101 (dc tbX7_bestStep_0_k 28 rfl) ?_
      refine lv_iload hx hb (dc tbX7_bestStep_0_k 29 rfl) (lv_at hl 0 rfl) ?_
      obtain ⟨h7, hf⟩ := chk_s hf
      refine g_lald hx hb hK hI hk0.2.2.2.2.2.2.2.2.2.2.2.2.1 (okb_in h7) (dc tbX7_bestStep_0_k 30 rfl) ?_
      refine lv_lconst (v := 0) hx hb (dc tbX7_bestStep_0_k 31 rfl) (by decide) ?_
      refine W.lcmp hx hb (dc tbX7_bestStep_0_k 32 rfl) ?_
      refine lv_if_le (tgt := 125) hx hb (dc tbX7_bestStep_0_k 33 rfl) rfl (fun c8 => ?_) (fun c8 => ?_)
      · have hf := ite_t c8 hf
        exact tX7_bestStep_b125 C hk0 hih2 x1 x2 x3 hf _ _ _ hI (lv_sub hl [1, 2, 3, 4] rfl)
      · have hf := ite_f c8 hf
        refine lv_iload_n hx hb (dc tbX7_bestStep_0_k 34 rfl) rfl (lv_at hl 3 rfl) ?_
        refine lv_bipush (v := 16) hx hb (dc tbX7_bestStep_0_k 35 rfl) bp_16 ?_
        refine lv_icmp_ne (tgt := 59) hx hb (dc tbX7_bestStep_0_k 36 rfl) rfl (fun c9 => ?_) (fun c9 => ?_)
        · have hf := ite_f c9 hf
          refine lv_aload_n hx hb (dc tbX7_bestStep_0_k 39 rfl) rfl (lv_at hl 1 rfl) ?_
          refine lv_iload_n hx hb (dc tbX7_bestStep_1_k 0 rfl) rfl (lv_at hl 3 rfl) ?_
          refine lv_iconst (v := 2) hx hb (dc tbX7_bestStep_1_k 1 rfl) ic_2 ?_
          refine lv_idiv hx hb (dc tbX7_bestStep_1_k 2 rfl) (by decide) ?_
          refine lv_iload_n hx hb (dc tbX7_bestStep_1_k 3 rfl) rfl (lv_at hl 3 rfl) ?_
          refine lv_iconst (v := 2) hx hb (dc tbX7_bestStep_1_k 4 rfl) ic_2 ?_
          refine lv_irem hx hb (dc tbX7_bestStep_1_k 5 rfl) (by decide) ?_
          refine lv_aload_n hx hb (dc tbX7_bestStep_1_k 6 rfl) rfl (lv_at hl 1 rfl) ?_
          refine lv_iload_n hx hb (dc tbX7_bestStep_1_k 7 rfl) rfl (lv_at hl 2 rfl) ?_
          refine lv_iload_n hx hb (dc tbX7_bestStep_1_k 8 rfl) rfl (lv_at hl 3 rfl) ?_
          obtain ⟨r11, q10, hf⟩ := cap_s hf
          refine g_callVi hx hb hml hown hts hK hap hsx hI (tX7_gaugeLast l hk0 q10 H.size) cv_X7_gaugeLast q_t9_123 rfl rfl ⟨Nat.le_of_ble_eq_true rfl, Nat.le_of_ble_eq_true rfl⟩ hk0.1 (by simp) rfl rfl rfl hl.1 rfl (Nat.le_of_ble_eq_true rfl) (dc tbX7_bestStep_1_k 9 rfl) ⟨Nat.le_of_ble_eq_true rfl, Nat.le_of_ble_eq_true rfl⟩ (fun H locs hI => ?_)
          refine lv_iload_n hx hb (dc tbX7_bestStep_1_k 10 rfl) rfl (lv_at hl 4 rfl) ?_
          refine lv_iconst (v := 2) hx hb (dc tbX7_bestStep_1_k 11 rfl) ic_2 ?_
          refine lv_idiv hx hb (dc tbX7_bestStep_1_k 12 rfl) (by decide) ?_
          refine lv_iload_n hx hb (dc tbX7_bestStep_1_k 13 rfl) rfl (lv_at hl 4 rfl) ?_
          refine lv_iconst (v := 2) hx hb (dc tbX7_bestStep_1_k 14 rfl) ic_2 ?_
          refine lv_irem hx hb (dc tbX7_bestStep_1_k 15 rfl) (by decide) ?_
          refine lv_aload_n hx hb (dc tbX7_bestStep_1_k 16 rfl) rfl (lv_at hl 1 rfl) ?_
          refine gg7_24 hx hb hts hown hK hI hk0.1 q_t7_100 (dc tbX7_bestStep_1_k 17 rfl) ?_
          refine lv_bipush (v := 16) hx hb (dc tbX7_bestStep_1_k 18 rfl) bp_16 ?_
          refine lv_iload_n hx hb (dc tbX7_bestStep_1_k 19 rfl) rfl (lv_at hl 2 rfl) ?_
          refine lv_imul hx hb (dc tbX7_bestStep_1_k 20 rfl) ?_
          refine lv_iload_n hx hb (dc tbX7_bestStep_1_k 21 rfl) rfl (lv_at hl 4 rfl) ?_
          refine lv_iadd hx hb (dc tbX7_bestStep_1_k 22 rfl) ?_
          obtain ⟨h13, hf⟩ := chk_s hf
          refine g_iald hx hb hK hI hk0.2.2.2.2.2.2.2.2.2.2.2.1 (okb_in h13) (dc tbX7_bestStep_1_k 23 rfl) ?_
          obtain ⟨r15, q14, hf⟩ := cap_s hf
          refine g_callVi hx hb hml hown hts hK hap hsx hI (tX7_costBehind l hk0 q14 H.size) cv_X7_costBehind q_t9_85 rfl rfl ⟨Nat.le_of_ble_eq_true rfl, Nat.le_of_ble_eq_true rfl⟩ hk0.1 (by simp) rfl rfl rfl hl.1 rfl (Nat.le_of_ble_eq_true rfl) (dc tbX7_bestStep_1_k 24 rfl) ⟨Nat.le_of_ble_eq_true rfl, Nat.le_of_ble_eq_true rfl⟩ (fun H locs hI => ?_)
          exact tX7_bestStep_b92 C hk0 hih2 x1 x2 x3 x4_21 r15 hf _ _ _ hI (lv_sub hl [1, 2, 3, 4, 0] rfl)
        · have hf := ite_t c9 hf
          refine lv_iconst (v := 0) hx hb (dc tbX7_bestStep_0_k 37 rfl) ic_0 ?_
          refine lv_goto (tgt := 92) hx hb (dc tbX7_bestStep_0_k 38 rfl) rfl ?_
          exact tX7_bestStep_b92 C hk0 hih2 x1 x2 x3 x4_21 (0 : Int32) hf _ _ _ hI (lv_sub hl [1, 2, 3, 4, 0] rfl)
def mX7_bestStep_l2 (k0 : Nat) (M : Mem) : Nat → Int32 → Int32 → Int32 → Option Int32
  | 0 => fun _ _ _ => none
  | n + 1 => mX7_bestStep_b2 k0 M (mX7_bestStep_l2 k0 M n)
theorem tX7_bestStep_l2 {p : Program} {l : Launch} {e : Env} {s : State} {m : MethodId} {args : Array Value} {below : List Frame} {meth : Method} {c : Code} {G : GT} {kd : Nat → Nat × Nat} {ad : Nat → Nat} (C : Cx p s m args meth c cX7_bestStep 6 (some .int) RX7 G kd ad) {k0 : Nat} (hk0 : kModel kd k0) {M : Mem} {vo : Int32}   : ∀ (fuel : Nat) (x1 : Int32) (x2 : Int32) (x3 : Int32), mX7_bestStep_l2 k0 M fuel x1 x2 x3 = some vo → At p l e (rmO 1 0 0) s m args below meth c 0 0 (MQ below (Qg G kd ad s.heap.size M (some (.int vo))) args s 0 0 (AS kd ad s.heap.size)) G kd ad 6 2 [(0, .ref (ad k0)), (1, .int x1), (2, .int x2), (3, .int x3)] [] M := by
  intro fuel
  induction fuel with
  | zero => intro x1 x2 x3 hf; cases hf
  | succ n IH => exact tX7_bestStep_b2 C hk0 IH
def mX7_bestStep (k0 : Nat) (x1 : Int32) (x2 : Int32) (M : Mem) : Option Int32 := mX7_bestStep_l2 k0 M 5000 x1 x2 (0 : Int32)
set_option maxHeartbeats 4000000 in
set_option maxRecDepth 100000 in
theorem tX7_bestStep (l : Launch) {G : GT} {kd : Nat → Nat × Nat} {ad : Nat → Nat} {k0 : Nat} (hk0 : kModel kd k0) {x1 : Int32} {x2 : Int32} {M : Mem} {vo : Int32} (hf : mX7_bestStep k0 x1 x2 M = some vo) (n : Nat) : Met l yX7_bestStep (Cond.code yX7_bestStep cX7_bestStep 6 (some .int) :: WA) (rmO 1 0 0) (Pg G kd ad n [.ref (ad k0), .int x1, .int x2] M) (Qg G kd ad n M (some (.int vo))) 0 0 (AS kd ad n) := by
  refine g_body (own := RX7) (by decide) rfl ?_ (Nat.le_of_ble_eq_true rfl)
  intro p e s m args below meth c C _ H locs ls hI hl
  obtain ⟨hx, hb, hml, hr, hown, hts, hlk, hK, hap, hsx⟩ := id C
  have hl : lv_has ls 6 [(0, .ref (ad k0)), (1, .int x1), (2, .int x2)] := hl
  unfold mX7_bestStep at hf
  refine lv_iconst (v := 0) hx hb (dc tbX7_bestStep_0_k 0 rfl) ic_0 ?_
  refine lv_istore_n (lv' := [(3, .int (0 : Int32)), (0, .ref (ad k0)), (1, .int x1), (2, .int x2)]) hx hb (dc tbX7_bestStep_0_k 1 rfl) rfl hl (by decide) rfl (fun ls hl => ?_)
  exact tX7_bestStep_l2 C hk0 5000 x1 x2 (0 : Int32) hf _ _ _ hI (lv_sub hl [1, 2, 3, 0] rfl)
theorem cv_X7_bestStep : cvF RX7 yX7_bestStep cX7_bestStep 6 (some .int) 2 := ⟨q_t9_149, q_s7_0, q_t1_11, q_t9_150, by decide +kernel⟩
def mX7_planned_b57 (k0 : Nat) (ih57 : Int32 → Int32 → Int32 → Int32 → Mem → Option (Mem × Int32)) (x1 : Int32) (x2 : Int32) (x3 : Int32) (x4 : Int32) (M : Mem) : Option (Mem × Int32) := ite2 (x1 < x4) (some (M, x3)) (cap (mX7_bestStep k0 x2 x3 M) (fun r19 => bnd ((x2 ||| ((1 : Int32) <<< ((r19 / (2 : Int32)) &&& 31)))) (fun x2_77 => bnd (x4 + (1 : Int32)) (fun x4_78 => ih57 x1 x2_77 r19 x4_78 M))))
set_option maxHeartbeats 4000000 in
set_option maxRecDepth 100000 in
theorem tX7_planned_b57 {p : Program} {l : Launch} {e : Env} {s : State} {m : MethodId} {args : Array Value} {below : List Frame} {meth : Method} {c : Code} {G : GT} {kd : Nat → Nat × Nat} {ad : Nat → Nat} (C : Cx p s m args meth c cX7_planned 5 (some .int) RX7 G kd ad) {k0 : Nat} (hk0 : kModel kd k0) {MO : Mem} {vo : Int32} {ih57 : Int32 → Int32 → Int32 → Int32 → Mem → Option (Mem × Int32)} (hih57 : ∀ (x1 : Int32) (x2 : Int32) (x3 : Int32) (x4 : Int32) (M : Mem), ih57 x1 x2 x3 x4 M = some (MO, vo) → At p l e (rmO 8 0 0) s m args below meth c 0 0 (MQ below (Qg G kd ad s.heap.size MO (some (.int vo))) args s 0 0 (AS kd ad s.heap.size)) G kd ad 5 57 [(0, .ref (ad k0)), (1, .int x1), (2, .int x2), (3, .int x3), (4, .int x4)] [] M) : ∀ (x1 : Int32) (x2 : Int32) (x3 : Int32) (x4 : Int32) (M : Mem), mX7_planned_b57 k0 ih57 x1 x2 x3 x4 M = some (MO, vo) → At p l e (rmO 8 0 0) s m args below meth c 0 0 (MQ below (Qg G kd ad s.heap.size MO (some (.int vo))) args s 0 0 (AS kd ad s.heap.size)) G kd ad 5 57 [(0, .ref (ad k0)), (1, .int x1), (2, .int x2), (3, .int x3), (4, .int x4)] [] M := by
  intro x1 x2 x3 x4 M hf H locs ls hI hl
  obtain ⟨hx, hb, hml, hr, hown, hts, hlk, hK, hap, hsx⟩ := id C
  unfold mX7_planned_b57 at hf
  refine lv_iload hx hb (dc tbX7_planned_0_k 33 rfl) (lv_at hl 4 rfl) ?_
  refine lv_iload_n hx hb (dc tbX7_planned_0_k 34 rfl) rfl (lv_at hl 1 rfl) ?_
  refine lv_icmp_gt (tgt := 84) hx hb (dc tbX7_planned_0_k 35 rfl) rfl (fun c17 => ?_) (fun c17 => ?_)
  · have hf := ite_t c17 hf
    refine lv_iload_n hx hb (dc tbX7_planned_1_k 11 rfl) rfl (lv_at hl 3 rfl) ?_
    cases hf
    exact g_iret hx hb hr hlk hI (dc tbX7_planned_1_k 12 rfl)
  · have hf := ite_f c17 hf
    refine lv_aload_n hx hb (dc tbX7_planned_0_k 36 rfl) rfl (lv_at hl 0 rfl) ?_
    refine lv_iload_n hx hb (dc tbX7_planned_0_k 37 rfl) rfl (lv_at hl 2 rfl) ?_
    refine lv_iload_n hx hb (dc tbX7_planned_0_k 38 rfl) rfl (lv_at hl 3 rfl) ?_
    obtain ⟨r19, q18, hf⟩ := cap_s hf
    refine g_callVi hx hb hml hown hts hK hap hsx hI (tX7_bestStep l hk0 q18 H.size) cv_X7_bestStep q_t9_147 rfl rfl ⟨Nat.le_of_ble_eq_true rfl, Nat.le_of_ble_eq_true rfl⟩ hk0.1 (by simp) rfl rfl rfl hl.1 rfl (Nat.le_of_ble_eq_true rfl) (dc tbX7_planned_0_k 39 rfl) ⟨Nat.le_of_ble_eq_true rfl, Nat.le_of_ble_eq_true rfl⟩ (fun H locs hI => ?_)
    refine lv_istore_n (lv' := [(3, .int r19), (0, .ref (ad k0)), (1, .int x1), (2, .int x2), (4, .int x4)]) hx hb (dc tbX7_planned_1_k 0 rfl) rfl hl (by decide) rfl (fun ls hl => ?_)
    refine lv_iload_n hx hb (dc tbX7_planned_1_k 1 rfl) rfl (lv_at hl 3 rfl) ?_
    refine lv_iconst (v := 1) hx hb (dc tbX7_planned_1_k 2 rfl) ic_1 ?_
    refine lv_iload_n hx hb (dc tbX7_planned_1_k 3 rfl) rfl (lv_at hl 0 rfl) ?_
    refine lv_iconst (v := 2) hx hb (dc tbX7_planned_1_k 4 rfl) ic_2 ?_
    refine lv_idiv hx hb (dc tbX7_planned_1_k 5 rfl) (by decide) ?_
    refine lv_ishl hx hb (dc tbX7_planned_1_k 6 rfl) ?_
    refine lv_ior hx hb (dc tbX7_planned_1_k 7 rfl) ?_
    obtain ⟨x2_77, e21, hf⟩ := bnd_s hf
    refine lv_ei e21 ?_
    refine lv_istore_n (lv' := [(2, .int x2_77), (3, .int r19), (0, .ref (ad k0)), (1, .int x1), (4, .int x4)]) hx hb (dc tbX7_planned_1_k 8 rfl) rfl hl (by decide) rfl (fun ls hl => ?_)
    obtain ⟨x4_78, e22, hf⟩ := bnd_s hf
    refine lv_iinc (v := x4_78) (lv' := [(4, .int x4_78), (2, .int x2_77), (3, .int r19), (0, .ref (ad k0)), (1, .int x1)]) hx hb (dc tbX7_planned_1_k 9 rfl) hl (k := 4) rfl (ii_e e22 ic_1) (by decide) rfl (fun ls hl => ?_)
    refine lv_goto (tgt := 57) hx hb (dc tbX7_planned_1_k 10 rfl) rfl ?_
    exact hih57 x1 x2_77 r19 x4_78 M hf _ _ _ hI (lv_sub hl [3, 4, 1, 2, 0] rfl)
def mX7_planned_l57 (k0 : Nat) : Nat → Int32 → Int32 → Int32 → Int32 → Mem → Option (Mem × Int32)
  | 0 => fun _ _ _ _ _ => none
  | n + 1 => mX7_planned_b57 k0 (mX7_planned_l57 k0 n)
theorem tX7_planned_l57 {p : Program} {l : Launch} {e : Env} {s : State} {m : MethodId} {args : Array Value} {below : List Frame} {meth : Method} {c : Code} {G : GT} {kd : Nat → Nat × Nat} {ad : Nat → Nat} (C : Cx p s m args meth c cX7_planned 5 (some .int) RX7 G kd ad) {k0 : Nat} (hk0 : kModel kd k0) {MO : Mem} {vo : Int32}   : ∀ (fuel : Nat) (x1 : Int32) (x2 : Int32) (x3 : Int32) (x4 : Int32) (M : Mem), mX7_planned_l57 k0 fuel x1 x2 x3 x4 M = some (MO, vo) → At p l e (rmO 8 0 0) s m args below meth c 0 0 (MQ below (Qg G kd ad s.heap.size MO (some (.int vo))) args s 0 0 (AS kd ad s.heap.size)) G kd ad 5 57 [(0, .ref (ad k0)), (1, .int x1), (2, .int x2), (3, .int x3), (4, .int x4)] [] M := by
  intro fuel
  induction fuel with
  | zero => intro x1 x2 x3 x4 M hf; cases hf
  | succ n IH => exact tX7_planned_b57 C hk0 IH
def mX7_planned_b33 (k0 : Nat) (x1 : Int32) (y1 : Int32) (M : Mem) : Option (Mem × Int32) := cal (mX7_good k0 y1 M) (fun M10 r9 => ite2 (r9 = 0) (some (M10, (0 : Int32))) (chk (okb (52 : Int32) 86) (bnd ((rd M10 (k0 + 1) ((52 : Int32)).toNatClampNeg)) (fun x2_48 => cap (mX7_lastNow k0 M10) (fun r15 => mX7_planned_l57 k0 5000 x1 x2_48 r15 (0 : Int32) M10)))))
set_option maxHeartbeats 4000000 in
set_option maxRecDepth 100000 in
theorem tX7_planned_b33 {p : Program} {l : Launch} {e : Env} {s : State} {m : MethodId} {args : Array Value} {below : List Frame} {meth : Method} {c : Code} {G : GT} {kd : Nat → Nat × Nat} {ad : Nat → Nat} (C : Cx p s m args meth c cX7_planned 5 (some .int) RX7 G kd ad) {k0 : Nat} (hk0 : kModel kd k0) {MO : Mem} {vo : Int32}   : ∀ (x1 : Int32) (y1 : Int32) (M : Mem), mX7_planned_b33 k0 x1 y1 M = some (MO, vo) → At p l e (rmO 8 0 0) s m args below meth c 0 0 (MQ below (Qg G kd ad s.heap.size MO (some (.int vo))) args s 0 0 (AS kd ad s.heap.size)) G kd ad 5 33 [(0, .ref (ad k0)), (1, .int x1)] [.int y1, .ref (ad k0)] M := by
  intro x1 y1 M hf H locs ls hI hl
  obtain ⟨hx, hb, hml, hr, hown, hts, hlk, hK, hap, hsx⟩ := id C
  unfold mX7_planned_b33 at hf
  obtain ⟨M10, r9, q8, hf⟩ := cal_s hf
  refine g_callVi hx hb hml hown hts hK hap hsx hI (tX7_good l hk0 q8 H.size) cv_X7_good q_t8_56 rfl rfl ⟨Nat.le_of_ble_eq_true rfl, Nat.le_of_ble_eq_true rfl⟩ hk0.1 (by simp) rfl rfl rfl hl.1 rfl (Nat.le_of_ble_eq_true rfl) (dc tbX7_planned_0_k 19 rfl) ⟨Nat.le_of_ble_eq_true rfl, Nat.le_of_ble_eq_true rfl⟩ (fun H locs hI => ?_)
  refine lv_if_ne (tgt := 41) hx hb (dc tbX7_planned_0_k 20 rfl) rfl (fun c11 => ?_) (fun c11 => ?_)
  · have hf := ite_f c11 hf
    refine lv_aload_n hx hb (dc tbX7_planned_0_k 23 rfl) rfl (lv_at hl 0 rfl) ?_
    refine gg7_0 hx hb hts hown hK hI hk0.1 q_t7_76 (dc tbX7_planned_0_k 24 rfl) ?_
    refine lv_bipush (v := 52) hx hb (dc tbX7_planned_0_k 25 rfl) bp_52 ?_
    obtain ⟨h12, hf⟩ := chk_s hf
    refine g_iald hx hb hK hI hk0.2.1 (okb_in h12) (dc tbX7_planned_0_k 26 rfl) ?_
    obtain ⟨x2_48, e13, hf⟩ := bnd_s hf
    refine lv_ei e13 ?_
    refine lv_istore_n (lv' := [(2, .int x2_48), (0, .ref (ad k0)), (1, .int x1)]) hx hb (dc tbX7_planned_0_k 27 rfl) rfl hl (by decide) rfl (fun ls hl => ?_)
    refine lv_aload_n hx hb (dc tbX7_planned_0_k 28 rfl) rfl (lv_at hl 1 rfl) ?_
    obtain ⟨r15, q14, hf⟩ := cap_s hf
    refine g_callVi hx hb hml hown hts hK hap hsx hI (tX7_lastNow l hk0 q14 H.size) cv_X7_lastNow q_t9_131 rfl rfl ⟨Nat.le_of_ble_eq_true rfl, Nat.le_of_ble_eq_true rfl⟩ hk0.1 (by simp) rfl rfl rfl hl.1 rfl (Nat.le_of_ble_eq_true rfl) (dc tbX7_planned_0_k 29 rfl) ⟨Nat.le_of_ble_eq_true rfl, Nat.le_of_ble_eq_true rfl⟩ (fun H locs hI => ?_)
    refine lv_istore_n (lv' := [(3, .int r15), (2, .int x2_48), (0, .ref (ad k0)), (1, .int x1)]) hx hb (dc tbX7_planned_0_k 30 rfl) rfl hl (by decide) rfl (fun ls hl => ?_)
    refine lv_iconst (v := 0) hx hb (dc tbX7_planned_0_k 31 rfl) ic_0 ?_
    refine lv_istore (lv' := [(4, .int (0 : Int32)), (3, .int r15), (2, .int x2_48), (0, .ref (ad k0)), (1, .int x1)]) hx hb (dc tbX7_planned_0_k 32 rfl) hl (by decide) rfl (fun ls hl => ?_)
    exact tX7_planned_l57 C hk0 5000 x1 x2_48 r15 (0 : Int32) M10 hf _ _ _ hI (lv_sub hl [3, 4, 2, 1, 0] rfl)
  · have hf := ite_t c11 hf
    refine lv_iconst (v := 0) hx hb (dc tbX7_planned_0_k 21 rfl) ic_0 ?_
    cases hf
    exact g_iret hx hb hr hlk hI (dc tbX7_planned_0_k 22 rfl)
def mX7_planned_b32 (k0 : Nat) (x1 : Int32) (M : Mem) : Option (Mem × Int32) := mX7_planned_b33 k0 x1 (0 : Int32) M
set_option maxHeartbeats 4000000 in
set_option maxRecDepth 100000 in
theorem tX7_planned_b32 {p : Program} {l : Launch} {e : Env} {s : State} {m : MethodId} {args : Array Value} {below : List Frame} {meth : Method} {c : Code} {G : GT} {kd : Nat → Nat × Nat} {ad : Nat → Nat} (C : Cx p s m args meth c cX7_planned 5 (some .int) RX7 G kd ad) {k0 : Nat} (hk0 : kModel kd k0) {MO : Mem} {vo : Int32}   : ∀ (x1 : Int32) (M : Mem), mX7_planned_b32 k0 x1 M = some (MO, vo) → At p l e (rmO 8 0 0) s m args below meth c 0 0 (MQ below (Qg G kd ad s.heap.size MO (some (.int vo))) args s 0 0 (AS kd ad s.heap.size)) G kd ad 5 32 [(0, .ref (ad k0)), (1, .int x1)] [.ref (ad k0)] M := by
  intro x1 M hf H locs ls hI hl
  obtain ⟨hx, hb, hml, hr, hown, hts, hlk, hK, hap, hsx⟩ := id C
  unfold mX7_planned_b32 at hf
  refine lv_iconst (v := 0) hx hb (dc tbX7_planned_0_k 18 rfl) ic_0 ?_
  exact tX7_planned_b33 C hk0 x1 (0 : Int32) M hf _ _ _ hI (lv_sub hl [0, 1] rfl)
def mX7_planned (k0 : Nat) (x1 : Int32) (M : Mem) : Option (Mem × Int32) := cal (mX7_layCosts k0 M) (fun M3 _ => cap (mX7_isOrder k0 M3) (fun r5 => ite2 (r5 = 0) (mX7_planned_b32 k0 x1 M3) (cap (mX7_unmade k0 M3) (fun r24 => cap (mX7_between (x1).toInt64 (0 : Int64) ((r24 - (1 : Int32))).toInt64 M3) (fun r27 => ite2 (r27 = 0) (mX7_planned_b32 k0 x1 M3) (mX7_planned_b33 k0 x1 (1 : Int32) M3))))))
set_option maxHeartbeats 4000000 in
set_option maxRecDepth 100000 in
theorem tX7_planned (l : Launch) {G : GT} {kd : Nat → Nat × Nat} {ad : Nat → Nat} {k0 : Nat} (hk0 : kModel kd k0) {x1 : Int32} {M : Mem} {MO : Mem} {vo : Int32} (hf : mX7_planned k0 x1 M = some (MO, vo)) (n : Nat) : Met l yX7_planned (Cond.code yX7_planned cX7_planned 5 (some .int) :: WA) (rmO 8 0 0) (Pg G kd ad n [.ref (ad k0), .int x1] M) (Qg G kd ad n MO (some (.int vo))) 0 0 (AS kd ad n) := by
  refine g_body (own := RX7) (by decide) rfl ?_ (Nat.le_of_ble_eq_true rfl)
  intro p e s m args below meth c C _ H locs ls hI hl
  obtain ⟨hx, hb, hml, hr, hown, hts, hlk, hK, hap, hsx⟩ := id C
  have hl : lv_has ls 5 [(0, .ref (ad k0)), (1, .int x1)] := hl
  unfold mX7_planned at hf
  refine lv_aload_n hx hb (dc tbX7_planned_0_k 0 rfl) rfl (lv_at hl 0 rfl) ?_
  obtain ⟨M3, r2, q1, hf⟩ := cal_s hf
  refine g_callVv hx hb hml hown hts hK hap hsx hI (tX7_layCosts l hk0 q1 H.size) cv_X7_layCosts q_t9_113 rfl rfl ⟨Nat.le_of_ble_eq_true rfl, Nat.le_of_ble_eq_true rfl⟩ hk0.1 (by simp) rfl rfl rfl hl.1 rfl (Nat.le_of_ble_eq_true rfl) (dc tbX7_planned_0_k 1 rfl) ⟨Nat.le_of_ble_eq_true rfl, Nat.le_of_ble_eq_true rfl⟩ (fun H locs hI => ?_)
  refine lv_aload_n hx hb (dc tbX7_planned_0_k 2 rfl) rfl (lv_at hl 0 rfl) ?_
  refine lv_aload_n hx hb (dc tbX7_planned_0_k 3 rfl) rfl (lv_at hl 0 rfl) ?_
  obtain ⟨r5, q4, hf⟩ := cap_s hf
  refine g_callVi hx hb hml hown hts hK hap hsx hI (tX7_isOrder l hk0 q4 H.size) cv_X7_isOrder q_t9_127 rfl rfl ⟨Nat.le_of_ble_eq_true rfl, Nat.le_of_ble_eq_true rfl⟩ hk0.1 (by simp) rfl rfl rfl hl.1 rfl (Nat.le_of_ble_eq_true rfl) (dc tbX7_planned_0_k 4 rfl) ⟨Nat.le_of_ble_eq_true rfl, Nat.le_of_ble_eq_true rfl⟩ (fun H locs hI => ?_)
  refine lv_if_eq (tgt := 32) hx hb (dc tbX7_planned_0_k 5 rfl) rfl (fun c7 => ?_) (fun c7 => ?_)
  · have hf := ite_t c7 hf
    exact tX7_planned_b32 C hk0 x1 M3 hf _ _ _ hI (lv_sub hl [0, 1] rfl)
  · have hf := ite_f c7 hf
    refine lv_iload_n hx hb (dc tbX7_planned_0_k 6 rfl) rfl (lv_at hl 1 rfl) ?_
    refine lv_i2l hx hb (dc tbX7_planned_0_k 7 rfl) rfl ?_
    refine lv_lconst (v := 0) hx hb (dc tbX7_planned_0_k 8 rfl) (by decide) ?_
    refine lv_aload_n hx hb (dc tbX7_planned_0_k 9 rfl) rfl (lv_at hl 0 rfl) ?_
    obtain ⟨r24, q23, hf⟩ := cap_s hf
    refine g_callVi hx hb hml hown hts hK hap hsx hI (tX7_unmade l hk0 q23 H.size) cv_X7_unmade q_t9_139 rfl rfl ⟨Nat.le_of_ble_eq_true rfl, Nat.le_of_ble_eq_true rfl⟩ hk0.1 (by simp) rfl rfl rfl hl.1 rfl (Nat.le_of_ble_eq_true rfl) (dc tbX7_planned_0_k 10 rfl) ⟨Nat.le_of_ble_eq_true rfl, Nat.le_of_ble_eq_true rfl⟩ (fun H locs hI => ?_)
    refine lv_iconst (v := 1) hx hb (dc tbX7_planned_0_k 11 rfl) ic_1 ?_
    refine lv_isub hx hb (dc tbX7_planned_0_k 12 rfl) ?_
    refine lv_i2l hx hb (dc tbX7_planned_0_k 13 rfl) rfl ?_
    obtain ⟨r27, q26, hf⟩ := cap_s hf
    refine g_callSi hx hb hml hown hts hK hap hsx hI (tX7_between l  q26 H.size) cs_X7_between q_t7_190 rfl rfl ⟨Nat.le_of_ble_eq_true rfl, Nat.le_of_ble_eq_true rfl⟩ rfl hl.1 rfl (Nat.le_of_ble_eq_true rfl) (dc tbX7_planned_0_k 14 rfl) ⟨Nat.le_of_ble_eq_true rfl, Nat.le_of_ble_eq_true rfl⟩ (fun H locs hI => ?_)
    refine lv_if_eq (tgt := 32) hx hb (dc tbX7_planned_0_k 15 rfl) rfl (fun c29 => ?_) (fun c29 => ?_)
    · have hf := ite_t c29 hf
      exact tX7_planned_b32 C hk0 x1 M3 hf _ _ _ hI (lv_sub hl [0, 1] rfl)
    · have hf := ite_f c29 hf
      refine lv_iconst (v := 1) hx hb (dc tbX7_planned_0_k 16 rfl) ic_1 ?_
      refine lv_goto (tgt := 33) hx hb (dc tbX7_planned_0_k 17 rfl) rfl ?_
      exact tX7_planned_b33 C hk0 x1 (1 : Int32) M3 hf _ _ _ hI (lv_sub hl [0, 1] rfl)
theorem cv_X7_planned : cvF RX7 yX7_planned cX7_planned 5 (some .int) 1 := ⟨q_t9_144, q_t9_145, q_t1_11, q_t9_146, by decide +kernel⟩
def mX7_greatestCost (k0 : Nat) (M : Mem) : Option (Mem × Int32) := bnd (wr M k0 5 (0 : Int32)) (fun M1 => cal (mX7_layCosts k0 M1) (fun M5 _ => cap (mX7_isOrder k0 M5) (fun r7 => ite2 (r7 = 0) (some (M5, (-1 : Int32))) (chk (okb (52 : Int32) 86) (cap (mX7_lastNow k0 M5) (fun r12 => chk (okb (((17 : Int32) * (rd M5 (k0 + 1) ((52 : Int32)).toNatClampNeg)) + r12) 4352) (some (M5, (rd M5 (k0 + 14) ((((17 : Int32) * (rd M5 (k0 + 1) ((52 : Int32)).toNatClampNeg)) + r12)).toNatClampNeg)))))))))
set_option maxHeartbeats 4000000 in
set_option maxRecDepth 100000 in
theorem tX7_greatestCost (l : Launch) {G : GT} {kd : Nat → Nat × Nat} {ad : Nat → Nat} {k0 : Nat} (hk0 : kModel kd k0) {M : Mem} {MO : Mem} {vo : Int32} (hf : mX7_greatestCost k0 M = some (MO, vo)) (n : Nat) : Met l yX7_greatestCost (Cond.code yX7_greatestCost cX7_greatestCost 1 (some .int) :: WA) (rmO 8 0 0) (Pg G kd ad n [.ref (ad k0)] M) (Qg G kd ad n MO (some (.int vo))) 0 0 (AS kd ad n) := by
  refine g_body (own := RX7) (by decide) rfl ?_ (Nat.le_of_ble_eq_true rfl)
  intro p e s m args below meth c C _ H locs ls hI hl
  obtain ⟨hx, hb, hml, hr, hown, hts, hlk, hK, hap, hsx⟩ := id C
  have hl : lv_has ls 1 [(0, .ref (ad k0))] := hl
  unfold mX7_greatestCost at hf
  refine lv_aload_n hx hb (dc tbX7_greatestCost_k 0 rfl) rfl (lv_at hl 0 rfl) ?_
  refine lv_iconst (v := 0) hx hb (dc tbX7_greatestCost_k 1 rfl) ic_0 ?_
  obtain ⟨M1, e2, hf⟩ := bnd_s hf
  refine gp7_5 hx hb hts hown hK hap hI hk0.1 q_t7_81 (dc tbX7_greatestCost_k 2 rfl) e2 (fun H locs hI => ?_)
  refine lv_aload_n hx hb (dc tbX7_greatestCost_k 3 rfl) rfl (lv_at hl 0 rfl) ?_
  obtain ⟨M5, r4, q3, hf⟩ := cal_s hf
  refine g_callVv hx hb hml hown hts hK hap hsx hI (tX7_layCosts l hk0 q3 H.size) cv_X7_layCosts q_t9_113 rfl rfl ⟨Nat.le_of_ble_eq_true rfl, Nat.le_of_ble_eq_true rfl⟩ hk0.1 (by simp) rfl rfl rfl hl.1 rfl (Nat.le_of_ble_eq_true rfl) (dc tbX7_greatestCost_k 4 rfl) ⟨Nat.le_of_ble_eq_true rfl, Nat.le_of_ble_eq_true rfl⟩ (fun H locs hI => ?_)
  refine lv_aload_n hx hb (dc tbX7_greatestCost_k 5 rfl) rfl (lv_at hl 0 rfl) ?_
  obtain ⟨r7, q6, hf⟩ := cap_s hf
  refine g_callVi hx hb hml hown hts hK hap hsx hI (tX7_isOrder l hk0 q6 H.size) cv_X7_isOrder q_t9_127 rfl rfl ⟨Nat.le_of_ble_eq_true rfl, Nat.le_of_ble_eq_true rfl⟩ hk0.1 (by simp) rfl rfl rfl hl.1 rfl (Nat.le_of_ble_eq_true rfl) (dc tbX7_greatestCost_k 6 rfl) ⟨Nat.le_of_ble_eq_true rfl, Nat.le_of_ble_eq_true rfl⟩ (fun H locs hI => ?_)
  refine lv_if_eq (tgt := 39) hx hb (dc tbX7_greatestCost_k 7 rfl) rfl (fun c9 => ?_) (fun c9 => ?_)
  · have hf := ite_t c9 hf
    refine lv_iconst (v := -1) hx hb (dc tbX7_greatestCost_k 21 rfl) ic_m1 ?_
    cases hf
    exact g_iret hx hb hr hlk hI (dc tbX7_greatestCost_k 22 rfl)
  · have hf := ite_f c9 hf
    refine lv_aload_n hx hb (dc tbX7_greatestCost_k 8 rfl) rfl (lv_at hl 0 rfl) ?_
    refine gg7_27 hx hb hts hown hK hI hk0.1 q_t7_103 (dc tbX7_greatestCost_k 9 rfl) ?_
    refine lv_bipush (v := 17) hx hb (dc tbX7_greatestCost_k 10 rfl) bp_17 ?_
    refine lv_aload_n hx hb (dc tbX7_greatestCost_k 11 rfl) rfl (lv_at hl 0 rfl) ?_
    refine gg7_0 hx hb hts hown hK hI hk0.1 q_t7_76 (dc tbX7_greatestCost_k 12 rfl) ?_
    refine lv_bipush (v := 52) hx hb (dc tbX7_greatestCost_k 13 rfl) bp_52 ?_
    obtain ⟨h10, hf⟩ := chk_s hf
    refine g_iald hx hb hK hI hk0.2.1 (okb_in h10) (dc tbX7_greatestCost_k 14 rfl) ?_
    refine lv_imul hx hb (dc tbX7_greatestCost_k 15 rfl) ?_
    refine lv_aload_n hx hb (dc tbX7_greatestCost_k 16 rfl) rfl (lv_at hl 0 rfl) ?_
    obtain ⟨r12, q11, hf⟩ := cap_s hf
    refine g_callVi hx hb hml hown hts hK hap hsx hI (tX7_lastNow l hk0 q11 H.size) cv_X7_lastNow q_t9_131 rfl rfl ⟨Nat.le_of_ble_eq_true rfl, Nat.le_of_ble_eq_true rfl⟩ hk0.1 (by simp) rfl rfl rfl hl.1 rfl (Nat.le_of_ble_eq_true rfl) (dc tbX7_greatestCost_k 17 rfl) ⟨Nat.le_of_ble_eq_true rfl, Nat.le_of_ble_eq_true rfl⟩ (fun H locs hI => ?_)
    refine lv_iadd hx hb (dc tbX7_greatestCost_k 18 rfl) ?_
    obtain ⟨h14, hf⟩ := chk_s hf
    refine g_iald hx hb hK hI hk0.2.2.2.2.2.2.2.2.2.2.2.2.2.2.1 (okb_in h14) (dc tbX7_greatestCost_k 19 rfl) ?_
    refine lv_goto (tgt := 40) hx hb (dc tbX7_greatestCost_k 20 rfl) rfl ?_
    cases hf
    exact g_iret hx hb hr hlk hI (dc tbX7_greatestCost_k 22 rfl)
theorem cv_X7_greatestCost : cvF RX7 yX7_greatestCost cX7_greatestCost 1 (some .int) 0 := ⟨q_t9_152, q_t9_153, q_t1_11, q_t9_154, by decide +kernel⟩
def mX7_ordersWith (k0 : Nat) (x1 : Int32) (x2 : Int32) (M : Mem) : Option (Mem × Int64) := cap (mX7_isBend k0 x1 M) (fun r2 => cap (mX7_isSide x2 M) (fun r5 => cal (mX7_good_ k0 r2 r5 M) (fun M9 r8 => ite2 (r8 = 0) (some (M9, (0 : Int64))) (cal (mX7_layOrders k0 M9) (fun M13 _ => chk (okb (52 : Int32) 86) (chk (okb ((((16 : Int32) * (rd M13 (k0 + 1) ((52 : Int32)).toNatClampNeg)) + ((2 : Int32) * x1)) + x2) 4096) (ite2 ((rd M13 (k0 + 10) (((((16 : Int32) * (rd M13 (k0 + 1) ((52 : Int32)).toNatClampNeg)) + ((2 : Int32) * x1)) + x2)).toNatClampNeg) = 0) (some (M13, (0 : Int64))) (chk (okb (52 : Int32) 86) (chk (okb ((rd M13 (k0 + 1) ((52 : Int32)).toNatClampNeg) ||| ((1 : Int32) <<< (x1 &&& 31))) 256) (some (M13, (rl M13 (k0 + 12) (((rd M13 (k0 + 1) ((52 : Int32)).toNatClampNeg) ||| ((1 : Int32) <<< (x1 &&& 31)))).toNatClampNeg))))))))))))
set_option maxHeartbeats 4000000 in
set_option maxRecDepth 100000 in
theorem tX7_ordersWith (l : Launch) {G : GT} {kd : Nat → Nat × Nat} {ad : Nat → Nat} {k0 : Nat} (hk0 : kModel kd k0) {x1 : Int32} {x2 : Int32} {M : Mem} {MO : Mem} {vo : Int64} (hf : mX7_ordersWith k0 x1 x2 M = some (MO, vo)) (n : Nat) : Met l yX7_ordersWith (Cond.code yX7_ordersWith cX7_ordersWith 3 (some .long) :: WA) (rmO 7 0 0) (Pg G kd ad n [.ref (ad k0), .int x1, .int x2] M) (Qg G kd ad n MO (some (.long vo))) 0 0 (AS kd ad n) := by
  refine g_body (own := RX7) (by decide) rfl ?_ (Nat.le_of_ble_eq_true rfl)
  intro p e s m args below meth c C _ H locs ls hI hl
  obtain ⟨hx, hb, hml, hr, hown, hts, hlk, hK, hap, hsx⟩ := id C
  have hl : lv_has ls 3 [(0, .ref (ad k0)), (1, .int x1), (2, .int x2)] := hl
  unfold mX7_ordersWith at hf
  refine lv_aload_n hx hb (dc tbX7_ordersWith_0_k 0 rfl) rfl (lv_at hl 0 rfl) ?_
  refine lv_aload_n hx hb (dc tbX7_ordersWith_0_k 1 rfl) rfl (lv_at hl 0 rfl) ?_
  refine lv_iload_n hx hb (dc tbX7_ordersWith_0_k 2 rfl) rfl (lv_at hl 1 rfl) ?_
  obtain ⟨r2, q1, hf⟩ := cap_s hf
  refine g_callVi hx hb hml hown hts hK hap hsx hI (tX7_isBend l hk0 q1 H.size) cv_X7_isBend q_t8_64 rfl rfl ⟨Nat.le_of_ble_eq_true rfl, Nat.le_of_ble_eq_true rfl⟩ hk0.1 (by simp) rfl rfl rfl hl.1 rfl (Nat.le_of_ble_eq_true rfl) (dc tbX7_ordersWith_0_k 3 rfl) ⟨Nat.le_of_ble_eq_true rfl, Nat.le_of_ble_eq_true rfl⟩ (fun H locs hI => ?_)
  refine lv_iload_n hx hb (dc tbX7_ordersWith_0_k 4 rfl) rfl (lv_at hl 2 rfl) ?_
  obtain ⟨r5, q4, hf⟩ := cap_s hf
  refine g_callSi hx hb hml hown hts hK hap hsx hI (tX7_isSide l  q4 H.size) cs_X7_isSide q_t8_219 rfl rfl ⟨Nat.le_of_ble_eq_true rfl, Nat.le_of_ble_eq_true rfl⟩ rfl hl.1 rfl (Nat.le_of_ble_eq_true rfl) (dc tbX7_ordersWith_0_k 5 rfl) ⟨Nat.le_of_ble_eq_true rfl, Nat.le_of_ble_eq_true rfl⟩ (fun H locs hI => ?_)
  obtain ⟨M9, r8, q7, hf⟩ := cal_s hf
  refine g_callVi hx hb hml hown hts hK hap hsx hI (tX7_good_ l hk0 q7 H.size) cv_X7_good_ q_t8_186 rfl rfl ⟨Nat.le_of_ble_eq_true rfl, Nat.le_of_ble_eq_true rfl⟩ hk0.1 (by simp) rfl rfl rfl hl.1 rfl (Nat.le_of_ble_eq_true rfl) (dc tbX7_ordersWith_0_k 6 rfl) ⟨Nat.le_of_ble_eq_true rfl, Nat.le_of_ble_eq_true rfl⟩ (fun H locs hI => ?_)
  refine lv_if_ne (tgt := 18) hx hb (dc tbX7_ordersWith_0_k 7 rfl) rfl (fun c10 => ?_) (fun c10 => ?_)
  · have hf := ite_f c10 hf
    refine lv_aload_n hx hb (dc tbX7_ordersWith_0_k 10 rfl) rfl (lv_at hl 0 rfl) ?_
    obtain ⟨M13, r12, q11, hf⟩ := cal_s hf
    refine g_callVv hx hb hml hown hts hK hap hsx hI (tX7_layOrders l hk0 q11 H.size) cv_X7_layOrders q_t9_93 rfl rfl ⟨Nat.le_of_ble_eq_true rfl, Nat.le_of_ble_eq_true rfl⟩ hk0.1 (by simp) rfl rfl rfl hl.1 rfl (Nat.le_of_ble_eq_true rfl) (dc tbX7_ordersWith_0_k 11 rfl) ⟨Nat.le_of_ble_eq_true rfl, Nat.le_of_ble_eq_true rfl⟩ (fun H locs hI => ?_)
    refine lv_aload_n hx hb (dc tbX7_ordersWith_0_k 12 rfl) rfl (lv_at hl 0 rfl) ?_
    refine gg7_23 hx hb hts hown hK hI hk0.1 q_t7_99 (dc tbX7_ordersWith_0_k 13 rfl) ?_
    refine lv_bipush (v := 16) hx hb (dc tbX7_ordersWith_0_k 14 rfl) bp_16 ?_
    refine lv_aload_n hx hb (dc tbX7_ordersWith_0_k 15 rfl) rfl (lv_at hl 0 rfl) ?_
    refine gg7_0 hx hb hts hown hK hI hk0.1 q_t7_76 (dc tbX7_ordersWith_0_k 16 rfl) ?_
    refine lv_bipush (v := 52) hx hb (dc tbX7_ordersWith_0_k 17 rfl) bp_52 ?_
    obtain ⟨h14, hf⟩ := chk_s hf
    refine g_iald hx hb hK hI hk0.2.1 (okb_in h14) (dc tbX7_ordersWith_0_k 18 rfl) ?_
    refine lv_imul hx hb (dc tbX7_ordersWith_0_k 19 rfl) ?_
    refine lv_iconst (v := 2) hx hb (dc tbX7_ordersWith_0_k 20 rfl) ic_2 ?_
    refine lv_iload_n hx hb (dc tbX7_ordersWith_0_k 21 rfl) rfl (lv_at hl 1 rfl) ?_
    refine lv_imul hx hb (dc tbX7_ordersWith_0_k 22 rfl) ?_
    refine lv_iadd hx hb (dc tbX7_ordersWith_0_k 23 rfl) ?_
    refine lv_iload_n hx hb (dc tbX7_ordersWith_0_k 24 rfl) rfl (lv_at hl 2 rfl) ?_
    refine lv_iadd hx hb (dc tbX7_ordersWith_0_k 25 rfl) ?_
    obtain ⟨h15, hf⟩ := chk_s hf
    refine g_zald hx hb hK hI hk0.2.2.2.2.2.2.2.2.2.2.1 (okb_in h15) (dc tbX7_ordersWith_0_k 26 rfl) ?_
    refine lv_if_eq (tgt := 65) hx hb (dc tbX7_ordersWith_0_k 27 rfl) rfl (fun c16 => ?_) (fun c16 => ?_)
    · have hf := ite_t c16 hf
      refine lv_lconst (v := 0) hx hb (dc tbX7_ordersWith_1_k 0 rfl) (by decide) ?_
      cases hf
      exact g_lret hx hb hr hlk hI (dc tbX7_ordersWith_1_k 1 rfl)
    · have hf := ite_f c16 hf
      refine lv_aload_n hx hb (dc tbX7_ordersWith_0_k 28 rfl) rfl (lv_at hl 0 rfl) ?_
      refine gg7_25 hx hb hts hown hK hI hk0.1 q_t7_101 (dc tbX7_ordersWith_0_k 29 rfl) ?_
      refine lv_aload_n hx hb (dc tbX7_ordersWith_0_k 30 rfl) rfl (lv_at hl 0 rfl) ?_
      refine gg7_0 hx hb hts hown hK hI hk0.1 q_t7_76 (dc tbX7_ordersWith_0_k 31 rfl) ?_
      refine lv_bipush (v := 52) hx hb (dc tbX7_ordersWith_0_k 32 rfl) bp_52 ?_
      obtain ⟨h17, hf⟩ := chk_s hf
      refine g_iald hx hb hK hI hk0.2.1 (okb_in h17) (dc tbX7_ordersWith_0_k 33 rfl) ?_
      refine lv_iconst (v := 1) hx hb (dc tbX7_ordersWith_0_k 34 rfl) ic_1 ?_
      refine lv_iload_n hx hb (dc tbX7_ordersWith_0_k 35 rfl) rfl (lv_at hl 1 rfl) ?_
      refine lv_ishl hx hb (dc tbX7_ordersWith_0_k 36 rfl) ?_
      refine lv_ior hx hb (dc tbX7_ordersWith_0_k 37 rfl) ?_
      obtain ⟨h18, hf⟩ := chk_s hf
      refine g_lald hx hb hK hI hk0.2.2.2.2.2.2.2.2.2.2.2.2.1 (okb_in h18) (dc tbX7_ordersWith_0_k 38 rfl) ?_
      refine lv_goto (tgt := 66) hx hb (dc tbX7_ordersWith_0_k 39 rfl) rfl ?_
      cases hf
      exact g_lret hx hb hr hlk hI (dc tbX7_ordersWith_1_k 1 rfl)
  · have hf := ite_t c10 hf
    refine lv_lconst (v := 0) hx hb (dc tbX7_ordersWith_0_k 8 rfl) (by decide) ?_
    cases hf
    exact g_lret hx hb hr hlk hI (dc tbX7_ordersWith_0_k 9 rfl)
theorem cv_X7_ordersWith : cvF RX7 yX7_ordersWith cX7_ordersWith 3 (some .long) 2 := ⟨q_t9_156, q_t9_157, q_t1_11, q_t9_158, by decide +kernel⟩
def mX7_layReached_b107 (k0 : Nat) (ih44 : Int32 → Mem → Option (Mem × Unit)) (x1 : Int32) (M : Mem) : Option (Mem × Unit) := bnd (x1 + (1 : Int32)) (fun x1_107 => ih44 x1_107 M)
set_option maxHeartbeats 4000000 in
set_option maxRecDepth 100000 in
theorem tX7_layReached_b107 {p : Program} {l : Launch} {e : Env} {s : State} {m : MethodId} {args : Array Value} {below : List Frame} {meth : Method} {c : Code} {G : GT} {kd : Nat → Nat × Nat} {ad : Nat → Nat} (C : Cx p s m args meth c cX7_layReached 3 none RX7 G kd ad) {k0 : Nat} (hk0 : kModel kd k0) {MO : Mem} {vo : Unit} {ih44 : Int32 → Mem → Option (Mem × Unit)} (hih44 : ∀ (x1 : Int32) (M : Mem), ih44 x1 M = some (MO, vo) → At p l e (rmO 7 0 0) s m args below meth c 0 0 (MQ below (Qg G kd ad s.heap.size MO none) args s 0 0 (AS kd ad s.heap.size)) G kd ad 3 44 [(0, .ref (ad k0)), (1, .int x1)] [] M) : ∀ (x1 : Int32) (M : Mem), mX7_layReached_b107 k0 ih44 x1 M = some (MO, vo) → At p l e (rmO 7 0 0) s m args below meth c 0 0 (MQ below (Qg G kd ad s.heap.size MO none) args s 0 0 (AS kd ad s.heap.size)) G kd ad 3 107 [(0, .ref (ad k0)), (1, .int x1)] [] M := by
  intro x1 M hf H locs ls hI hl
  obtain ⟨hx, hb, hml, hr, hown, hts, hlk, hK, hap, hsx⟩ := id C
  unfold mX7_layReached_b107 at hf
  obtain ⟨x1_107, e14, hf⟩ := bnd_s hf
  refine lv_iinc (v := x1_107) (lv' := [(1, .int x1_107), (0, .ref (ad k0))]) hx hb (dc tbX7_layReached_1_k 27 rfl) hl (k := 1) rfl (ii_e e14 ic_1) (by decide) rfl (fun ls hl => ?_)
  refine lv_goto (tgt := 44) hx hb (dc tbX7_layReached_1_k 28 rfl) rfl ?_
  exact hih44 x1_107 M hf _ _ _ hI (lv_sub hl [1, 0] rfl)
def mX7_layReached_b54 (k0 : Nat) (ih44 : Int32 → Mem → Option (Mem × Unit)) (ih54 : Int32 → Int32 → Mem → Option (Mem × Unit)) (x1 : Int32) (x2 : Int32) (M : Mem) : Option (Mem × Unit) := chk (okb (0 : Int32) 86) (ite2 (((2 : Int32) * (rd M (k0 + 1) ((0 : Int32)).toNatClampNeg)) ≤ x2) (mX7_layReached_b107 k0 ih44 x1 M) (chk (okb x1 256) (ite2 ((rd M (k0 + 15) (x1).toNatClampNeg) = 0) (mX7_layReached_b107 k0 ih44 x1 M) (chk (okb (x1 ||| ((1 : Int32) <<< ((x2 / (2 : Int32)) &&& 31))) 256) (chk (okb (((16 : Int32) * x1) + x2) 4096) (chk (okb (x1 ||| ((1 : Int32) <<< ((x2 / (2 : Int32)) &&& 31))) 256) (bnd (wr M (k0 + 15) ((x1 ||| ((1 : Int32) <<< ((x2 / (2 : Int32)) &&& 31)))).toNatClampNeg (vp_nar .boolean ((rd M (k0 + 15) ((x1 ||| ((1 : Int32) <<< ((x2 / (2 : Int32)) &&& 31)))).toNatClampNeg) ||| (rd M (k0 + 10) ((((16 : Int32) * x1) + x2)).toNatClampNeg)))) (fun M21 => bnd (x2 + (1 : Int32)) (fun x2_101 => ih54 x1 x2_101 M21)))))))))
set_option maxHeartbeats 4000000 in
set_option maxRecDepth 100000 in
theorem tX7_layReached_b54 {p : Program} {l : Launch} {e : Env} {s : State} {m : MethodId} {args : Array Value} {below : List Frame} {meth : Method} {c : Code} {G : GT} {kd : Nat → Nat × Nat} {ad : Nat → Nat} (C : Cx p s m args meth c cX7_layReached 3 none RX7 G kd ad) {k0 : Nat} (hk0 : kModel kd k0) {MO : Mem} {vo : Unit} {ih44 : Int32 → Mem → Option (Mem × Unit)} {ih54 : Int32 → Int32 → Mem → Option (Mem × Unit)} (hih44 : ∀ (x1 : Int32) (M : Mem), ih44 x1 M = some (MO, vo) → At p l e (rmO 7 0 0) s m args below meth c 0 0 (MQ below (Qg G kd ad s.heap.size MO none) args s 0 0 (AS kd ad s.heap.size)) G kd ad 3 44 [(0, .ref (ad k0)), (1, .int x1)] [] M) (hih54 : ∀ (x1 : Int32) (x2 : Int32) (M : Mem), ih54 x1 x2 M = some (MO, vo) → At p l e (rmO 7 0 0) s m args below meth c 0 0 (MQ below (Qg G kd ad s.heap.size MO none) args s 0 0 (AS kd ad s.heap.size)) G kd ad 3 54 [(0, .ref (ad k0)), (1, .int x1), (2, .int x2)] [] M) : ∀ (x1 : Int32) (x2 : Int32) (M : Mem), mX7_layReached_b54 k0 ih44 ih54 x1 x2 M = some (MO, vo) → At p l e (rmO 7 0 0) s m args below meth c 0 0 (MQ below (Qg G kd ad s.heap.size MO none) args s 0 0 (AS kd ad s.heap.size)) G kd ad 3 54 [(0, .ref (ad k0)), (1, .int x1), (2, .int x2)] [] M := by
  intro x1 x2 M hf H locs ls hI hl
  obtain ⟨hx, hb, hml, hr, hown, hts, hlk, hK, hap, hsx⟩ := id C
  unfold mX7_layReached_b54 at hf
  refine lv_iload_n hx hb (dc tbX7_layReached_0_k 31 rfl) rfl (lv_at hl 2 rfl) ?_
  refine lv_iconst (v := 2) hx hb (dc tbX7_layReached_0_k 32 rfl) ic_2 ?_
  refine lv_aload_n hx hb (dc tbX7_layReached_0_k 33 rfl) rfl (lv_at hl 0 rfl) ?_
  refine gg7_0 hx hb hts hown hK hI hk0.1 q_t7_76 (dc tbX7_layReached_0_k 34 rfl) ?_
  refine lv_iconst (v := 0) hx hb (dc tbX7_layReached_0_k 35 rfl) ic_0 ?_
  obtain ⟨h12, hf⟩ := chk_s hf
  refine g_iald hx hb hK hI hk0.2.1 (okb_in h12) (dc tbX7_layReached_0_k 36 rfl) ?_
  refine lv_imul hx hb (dc tbX7_layReached_0_k 37 rfl) ?_
  refine lv_icmp_ge (tgt := 107) hx hb (dc tbX7_layReached_0_k 38 rfl) rfl (fun c13 => ?_) (fun c13 => ?_)
  · have hf := ite_t c13 hf
    exact tX7_layReached_b107 C hk0 hih44 x1 M hf _ _ _ hI (lv_sub hl [0, 1] rfl)
  · have hf := ite_f c13 hf
    refine lv_aload_n hx hb (dc tbX7_layReached_0_k 39 rfl) rfl (lv_at hl 0 rfl) ?_
    refine gg7_28 hx hb hts hown hK hI hk0.1 q_t7_104 (dc tbX7_layReached_1_k 0 rfl) ?_
    refine lv_iload_n hx hb (dc tbX7_layReached_1_k 1 rfl) rfl (lv_at hl 1 rfl) ?_
    obtain ⟨h15, hf⟩ := chk_s hf
    refine g_zald hx hb hK hI hk0.2.2.2.2.2.2.2.2.2.2.2.2.2.2.2.1 (okb_in h15) (dc tbX7_layReached_1_k 2 rfl) ?_
    refine lv_if_eq (tgt := 107) hx hb (dc tbX7_layReached_1_k 3 rfl) rfl (fun c16 => ?_) (fun c16 => ?_)
    · have hf := ite_t c16 hf
      exact tX7_layReached_b107 C hk0 hih44 x1 M hf _ _ _ hI (lv_sub hl [0, 1] rfl)
    · have hf := ite_f c16 hf
      refine lv_aload_n hx hb (dc tbX7_layReached_1_k 4 rfl) rfl (lv_at hl 0 rfl) ?_
      refine gg7_28 hx hb hts hown hK hI hk0.1 q_t7_104 (dc tbX7_layReached_1_k 5 rfl) ?_
      refine lv_iload_n hx hb (dc tbX7_layReached_1_k 6 rfl) rfl (lv_at hl 1 rfl) ?_
      refine lv_iconst (v := 1) hx hb (dc tbX7_layReached_1_k 7 rfl) ic_1 ?_
      refine lv_iload_n hx hb (dc tbX7_layReached_1_k 8 rfl) rfl (lv_at hl 2 rfl) ?_
      refine lv_iconst (v := 2) hx hb (dc tbX7_layReached_1_k 9 rfl) ic_2 ?_
      refine lv_idiv hx hb (dc tbX7_layReached_1_k 10 rfl) (by decide) ?_
      refine lv_ishl hx hb (dc tbX7_layReached_1_k 11 rfl) ?_
      refine lv_ior hx hb (dc tbX7_layReached_1_k 12 rfl) ?_
      refine lv_dup2_11 hx hb (dc tbX7_layReached_1_k 13 rfl) rfl rfl ?_
      obtain ⟨h17, hf⟩ := chk_s hf
      refine g_zald hx hb hK hI hk0.2.2.2.2.2.2.2.2.2.2.2.2.2.2.2.1 (okb_in h17) (dc tbX7_layReached_1_k 14 rfl) ?_
      refine lv_aload_n hx hb (dc tbX7_layReached_1_k 15 rfl) rfl (lv_at hl 0 rfl) ?_
      refine gg7_23 hx hb hts hown hK hI hk0.1 q_t7_99 (dc tbX7_layReached_1_k 16 rfl) ?_
      refine lv_bipush (v := 16) hx hb (dc tbX7_layReached_1_k 17 rfl) bp_16 ?_
      refine lv_iload_n hx hb (dc tbX7_layReached_1_k 18 rfl) rfl (lv_at hl 1 rfl) ?_
      refine lv_imul hx hb (dc tbX7_layReached_1_k 19 rfl) ?_
      refine lv_iload_n hx hb (dc tbX7_layReached_1_k 20 rfl) rfl (lv_at hl 2 rfl) ?_
      refine lv_iadd hx hb (dc tbX7_layReached_1_k 21 rfl) ?_
      obtain ⟨h18, hf⟩ := chk_s hf
      refine g_zald hx hb hK hI hk0.2.2.2.2.2.2.2.2.2.2.1 (okb_in h18) (dc tbX7_layReached_1_k 22 rfl) ?_
      refine lv_ior hx hb (dc tbX7_layReached_1_k 23 rfl) ?_
      obtain ⟨h19, hf⟩ := chk_s hf
      obtain ⟨M21, e20, hf⟩ := bnd_s hf
      refine g_zast hx hb hK hap hI hk0.2.2.2.2.2.2.2.2.2.2.2.2.2.2.2.1 (okb_in h19) (dc tbX7_layReached_1_k 24 rfl) e20 (fun H locs hI => ?_)
      obtain ⟨x2_101, e22, hf⟩ := bnd_s hf
      refine lv_iinc (v := x2_101) (lv' := [(2, .int x2_101), (0, .ref (ad k0)), (1, .int x1)]) hx hb (dc tbX7_layReached_1_k 25 rfl) hl (k := 2) rfl (ii_e e22 ic_1) (by decide) rfl (fun ls hl => ?_)
      refine lv_goto (tgt := 54) hx hb (dc tbX7_layReached_1_k 26 rfl) rfl ?_
      exact hih54 x1 x2_101 M21 hf _ _ _ hI (lv_sub hl [1, 2, 0] rfl)
def mX7_layReached_l54 (k0 : Nat) (ih44 : Int32 → Mem → Option (Mem × Unit)) : Nat → Int32 → Int32 → Mem → Option (Mem × Unit)
  | 0 => fun _ _ _ => none
  | n + 1 => mX7_layReached_b54 k0 ih44 (mX7_layReached_l54 k0 ih44 n)
theorem tX7_layReached_l54 {p : Program} {l : Launch} {e : Env} {s : State} {m : MethodId} {args : Array Value} {below : List Frame} {meth : Method} {c : Code} {G : GT} {kd : Nat → Nat × Nat} {ad : Nat → Nat} (C : Cx p s m args meth c cX7_layReached 3 none RX7 G kd ad) {k0 : Nat} (hk0 : kModel kd k0) {MO : Mem} {vo : Unit} {ih44 : Int32 → Mem → Option (Mem × Unit)} (hih44 : ∀ (x1 : Int32) (M : Mem), ih44 x1 M = some (MO, vo) → At p l e (rmO 7 0 0) s m args below meth c 0 0 (MQ below (Qg G kd ad s.heap.size MO none) args s 0 0 (AS kd ad s.heap.size)) G kd ad 3 44 [(0, .ref (ad k0)), (1, .int x1)] [] M) : ∀ (fuel : Nat) (x1 : Int32) (x2 : Int32) (M : Mem), mX7_layReached_l54 k0 ih44 fuel x1 x2 M = some (MO, vo) → At p l e (rmO 7 0 0) s m args below meth c 0 0 (MQ below (Qg G kd ad s.heap.size MO none) args s 0 0 (AS kd ad s.heap.size)) G kd ad 3 54 [(0, .ref (ad k0)), (1, .int x1), (2, .int x2)] [] M := by
  intro fuel
  induction fuel with
  | zero => intro x1 x2 M hf; cases hf
  | succ n IH => exact tX7_layReached_b54 C hk0 hih44 IH
def mX7_layReached_b44 (k0 : Nat) (ih44 : Int32 → Mem → Option (Mem × Unit)) (x1 : Int32) (M : Mem) : Option (Mem × Unit) := cap (mX7_full k0 M) (fun r9 => ite2 (r9 < x1) (some (M, ())) (mX7_layReached_l54 k0 ih44 5000 x1 (0 : Int32) M))
set_option maxHeartbeats 4000000 in
set_option maxRecDepth 100000 in
theorem tX7_layReached_b44 {p : Program} {l : Launch} {e : Env} {s : State} {m : MethodId} {args : Array Value} {below : List Frame} {meth : Method} {c : Code} {G : GT} {kd : Nat → Nat × Nat} {ad : Nat → Nat} (C : Cx p s m args meth c cX7_layReached 3 none RX7 G kd ad) {k0 : Nat} (hk0 : kModel kd k0) {MO : Mem} {vo : Unit} {ih44 : Int32 → Mem → Option (Mem × Unit)} (hih44 : ∀ (x1 : Int32) (M : Mem), ih44 x1 M = some (MO, vo) → At p l e (rmO 7 0 0) s m args below meth c 0 0 (MQ below (Qg G kd ad s.heap.size MO none) args s 0 0 (AS kd ad s.heap.size)) G kd ad 3 44 [(0, .ref (ad k0)), (1, .int x1)] [] M) : ∀ (x1 : Int32) (M : Mem), mX7_layReached_b44 k0 ih44 x1 M = some (MO, vo) → At p l e (rmO 7 0 0) s m args below meth c 0 0 (MQ below (Qg G kd ad s.heap.size MO none) args s 0 0 (AS kd ad s.heap.size)) G kd ad 3 44 [(0, .ref (ad k0)), (1, .int x1)] [] M := by
  intro x1 M hf H locs ls hI hl
  obtain ⟨hx, hb, hml, hr, hown, hts, hlk, hK, hap, hsx⟩ := id C
  unfold mX7_layReached_b44 at hf
  refine lv_iload_n hx hb (dc tbX7_layReached_0_k 25 rfl) rfl (lv_at hl 1 rfl) ?_
  refine lv_aload_n hx hb (dc tbX7_layReached_0_k 26 rfl) rfl (lv_at hl 0 rfl) ?_
  obtain ⟨r9, q8, hf⟩ := cap_s hf
  refine g_callVi hx hb hml hown hts hK hap hsx hI (tX7_full l hk0 q8 H.size) cv_X7_full q_t9_97 rfl rfl ⟨Nat.le_of_ble_eq_true rfl, Nat.le_of_ble_eq_true rfl⟩ hk0.1 (by simp) rfl rfl rfl hl.1 rfl (Nat.le_of_ble_eq_true rfl) (dc tbX7_layReached_0_k 27 rfl) ⟨Nat.le_of_ble_eq_true rfl, Nat.le_of_ble_eq_true rfl⟩ (fun H locs hI => ?_)
  refine lv_icmp_gt (tgt := 113) hx hb (dc tbX7_layReached_0_k 28 rfl) rfl (fun c11 => ?_) (fun c11 => ?_)
  · have hf := ite_t c11 hf
    cases hf
    exact g_vret hx hb hr hlk hI (dc tbX7_layReached_1_k 29 rfl)
  · have hf := ite_f c11 hf
    refine lv_iconst (v := 0) hx hb (dc tbX7_layReached_0_k 29 rfl) ic_0 ?_
    refine lv_istore_n (lv' := [(2, .int (0 : Int32)), (0, .ref (ad k0)), (1, .int x1)]) hx hb (dc tbX7_layReached_0_k 30 rfl) rfl hl (by decide) rfl (fun ls hl => ?_)
    exact tX7_layReached_l54 C hk0 hih44 5000 x1 (0 : Int32) M hf _ _ _ hI (lv_sub hl [1, 2, 0] rfl)
def mX7_layReached_l44 (k0 : Nat) : Nat → Int32 → Mem → Option (Mem × Unit)
  | 0 => fun _ _ => none
  | n + 1 => mX7_layReached_b44 k0 (mX7_layReached_l44 k0 n)
theorem tX7_layReached_l44 {p : Program} {l : Launch} {e : Env} {s : State} {m : MethodId} {args : Array Value} {below : List Frame} {meth : Method} {c : Code} {G : GT} {kd : Nat → Nat × Nat} {ad : Nat → Nat} (C : Cx p s m args meth c cX7_layReached 3 none RX7 G kd ad) {k0 : Nat} (hk0 : kModel kd k0) {MO : Mem} {vo : Unit}   : ∀ (fuel : Nat) (x1 : Int32) (M : Mem), mX7_layReached_l44 k0 fuel x1 M = some (MO, vo) → At p l e (rmO 7 0 0) s m args below meth c 0 0 (MQ below (Qg G kd ad s.heap.size MO none) args s 0 0 (AS kd ad s.heap.size)) G kd ad 3 44 [(0, .ref (ad k0)), (1, .int x1)] [] M := by
  intro fuel
  induction fuel with
  | zero => intro x1 M hf; cases hf
  | succ n IH => exact tX7_layReached_b44 C hk0 IH
def mX7_layReached_b35 (k0 : Nat) (ih6 : Int32 → Mem → Option (Mem × Unit)) (x1 : Int32) (y1 : Int32) (y2 : Int32) (M : Mem) : Option (Mem × Unit) := chk (okb y1 256) (bnd (wr M (k0 + 15) (y1).toNatClampNeg (vp_nar .boolean y2)) (fun M27 => bnd (x1 + (1 : Int32)) (fun x1_36 => ih6 x1_36 M27)))
set_option maxHeartbeats 4000000 in
set_option maxRecDepth 100000 in
theorem tX7_layReached_b35 {p : Program} {l : Launch} {e : Env} {s : State} {m : MethodId} {args : Array Value} {below : List Frame} {meth : Method} {c : Code} {G : GT} {kd : Nat → Nat × Nat} {ad : Nat → Nat} (C : Cx p s m args meth c cX7_layReached 3 none RX7 G kd ad) {k0 : Nat} (hk0 : kModel kd k0) {MO : Mem} {vo : Unit} {ih6 : Int32 → Mem → Option (Mem × Unit)} (hih6 : ∀ (x1 : Int32) (M : Mem), ih6 x1 M = some (MO, vo) → At p l e (rmO 7 0 0) s m args below meth c 0 0 (MQ below (Qg G kd ad s.heap.size MO none) args s 0 0 (AS kd ad s.heap.size)) G kd ad 3 6 [(0, .ref (ad k0)), (1, .int x1)] [] M) : ∀ (x1 : Int32) (y1 : Int32) (y2 : Int32) (M : Mem), mX7_layReached_b35 k0 ih6 x1 y1 y2 M = some (MO, vo) → At p l e (rmO 7 0 0) s m args below meth c 0 0 (MQ below (Qg G kd ad s.heap.size MO none) args s 0 0 (AS kd ad s.heap.size)) G kd ad 3 35 [(0, .ref (ad k0)), (1, .int x1)] [.int y2, .int y1, .ref (ad (k0 + 15))] M := by
  intro x1 y1 y2 M hf H locs ls hI hl
  obtain ⟨hx, hb, hml, hr, hown, hts, hlk, hK, hap, hsx⟩ := id C
  unfold mX7_layReached_b35 at hf
  obtain ⟨h25, hf⟩ := chk_s hf
  obtain ⟨M27, e26, hf⟩ := bnd_s hf
  refine g_zast hx hb hK hap hI hk0.2.2.2.2.2.2.2.2.2.2.2.2.2.2.2.1 (okb_in h25) (dc tbX7_layReached_0_k 20 rfl) e26 (fun H locs hI => ?_)
  obtain ⟨x1_36, e28, hf⟩ := bnd_s hf
  refine lv_iinc (v := x1_36) (lv' := [(1, .int x1_36), (0, .ref (ad k0))]) hx hb (dc tbX7_layReached_0_k 21 rfl) hl (k := 1) rfl (ii_e e28 ic_1) (by decide) rfl (fun ls hl => ?_)
  refine lv_goto (tgt := 6) hx hb (dc tbX7_layReached_0_k 22 rfl) rfl ?_
  exact hih6 x1_36 M27 hf _ _ _ hI (lv_sub hl [1, 0] rfl)
def mX7_layReached_b6 (k0 : Nat) (ih6 : Int32 → Mem → Option (Mem × Unit)) (x1 : Int32) (M : Mem) : Option (Mem × Unit) := cap (mX7_full k0 M) (fun r5 => ite2 (r5 < x1) (mX7_layReached_l44 k0 5000 (0 : Int32) M) (chk (okb (52 : Int32) 86) (ite2 (x1 = (rd M (k0 + 1) ((52 : Int32)).toNatClampNeg)) (mX7_layReached_b35 k0 ih6 x1 x1 (1 : Int32) M) (mX7_layReached_b35 k0 ih6 x1 x1 (0 : Int32) M))))
set_option maxHeartbeats 4000000 in
set_option maxRecDepth 100000 in
theorem tX7_layReached_b6 {p : Program} {l : Launch} {e : Env} {s : State} {m : MethodId} {args : Array Value} {below : List Frame} {meth : Method} {c : Code} {G : GT} {kd : Nat → Nat × Nat} {ad : Nat → Nat} (C : Cx p s m args meth c cX7_layReached 3 none RX7 G kd ad) {k0 : Nat} (hk0 : kModel kd k0) {MO : Mem} {vo : Unit} {ih6 : Int32 → Mem → Option (Mem × Unit)} (hih6 : ∀ (x1 : Int32) (M : Mem), ih6 x1 M = some (MO, vo) → At p l e (rmO 7 0 0) s m args below meth c 0 0 (MQ below (Qg G kd ad s.heap.size MO none) args s 0 0 (AS kd ad s.heap.size)) G kd ad 3 6 [(0, .ref (ad k0)), (1, .int x1)] [] M) : ∀ (x1 : Int32) (M : Mem), mX7_layReached_b6 k0 ih6 x1 M = some (MO, vo) → At p l e (rmO 7 0 0) s m args below meth c 0 0 (MQ below (Qg G kd ad s.heap.size MO none) args s 0 0 (AS kd ad s.heap.size)) G kd ad 3 6 [(0, .ref (ad k0)), (1, .int x1)] [] M := by
  intro x1 M hf H locs ls hI hl
  obtain ⟨hx, hb, hml, hr, hown, hts, hlk, hK, hap, hsx⟩ := id C
  unfold mX7_layReached_b6 at hf
  refine lv_iload_n hx hb (dc tbX7_layReached_0_k 4 rfl) rfl (lv_at hl 1 rfl) ?_
  refine lv_aload_n hx hb (dc tbX7_layReached_0_k 5 rfl) rfl (lv_at hl 0 rfl) ?_
  obtain ⟨r5, q4, hf⟩ := cap_s hf
  refine g_callVi hx hb hml hown hts hK hap hsx hI (tX7_full l hk0 q4 H.size) cv_X7_full q_t9_97 rfl rfl ⟨Nat.le_of_ble_eq_true rfl, Nat.le_of_ble_eq_true rfl⟩ hk0.1 (by simp) rfl rfl rfl hl.1 rfl (Nat.le_of_ble_eq_true rfl) (dc tbX7_layReached_0_k 6 rfl) ⟨Nat.le_of_ble_eq_true rfl, Nat.le_of_ble_eq_true rfl⟩ (fun H locs hI => ?_)
  refine lv_icmp_gt (tgt := 42) hx hb (dc tbX7_layReached_0_k 7 rfl) rfl (fun c7 => ?_) (fun c7 => ?_)
  · have hf := ite_t c7 hf
    refine lv_iconst (v := 0) hx hb (dc tbX7_layReached_0_k 23 rfl) ic_0 ?_
    refine lv_istore_n (lv' := [(1, .int (0 : Int32)), (0, .ref (ad k0))]) hx hb (dc tbX7_layReached_0_k 24 rfl) rfl hl (by decide) rfl (fun ls hl => ?_)
    exact tX7_layReached_l44 C hk0 5000 (0 : Int32) M hf _ _ _ hI (lv_sub hl [1, 0] rfl)
  · have hf := ite_f c7 hf
    refine lv_aload_n hx hb (dc tbX7_layReached_0_k 8 rfl) rfl (lv_at hl 0 rfl) ?_
    refine gg7_28 hx hb hts hown hK hI hk0.1 q_t7_104 (dc tbX7_layReached_0_k 9 rfl) ?_
    refine lv_iload_n hx hb (dc tbX7_layReached_0_k 10 rfl) rfl (lv_at hl 1 rfl) ?_
    refine lv_iload_n hx hb (dc tbX7_layReached_0_k 11 rfl) rfl (lv_at hl 1 rfl) ?_
    refine lv_aload_n hx hb (dc tbX7_layReached_0_k 12 rfl) rfl (lv_at hl 0 rfl) ?_
    refine gg7_0 hx hb hts hown hK hI hk0.1 q_t7_76 (dc tbX7_layReached_0_k 13 rfl) ?_
    refine lv_bipush (v := 52) hx hb (dc tbX7_layReached_0_k 14 rfl) bp_52 ?_
    obtain ⟨h23, hf⟩ := chk_s hf
    refine g_iald hx hb hK hI hk0.2.1 (okb_in h23) (dc tbX7_layReached_0_k 15 rfl) ?_
    refine lv_icmp_ne (tgt := 34) hx hb (dc tbX7_layReached_0_k 16 rfl) rfl (fun c24 => ?_) (fun c24 => ?_)
    · have hf := ite_f c24 hf
      refine lv_iconst (v := 0) hx hb (dc tbX7_layReached_0_k 19 rfl) ic_0 ?_
      exact tX7_layReached_b35 C hk0 hih6 x1 x1 (0 : Int32) M hf _ _ _ hI (lv_sub hl [0, 1] rfl)
    · have hf := ite_t c24 hf
      refine lv_iconst (v := 1) hx hb (dc tbX7_layReached_0_k 17 rfl) ic_1 ?_
      refine lv_goto (tgt := 35) hx hb (dc tbX7_layReached_0_k 18 rfl) rfl ?_
      exact tX7_layReached_b35 C hk0 hih6 x1 x1 (1 : Int32) M hf _ _ _ hI (lv_sub hl [0, 1] rfl)
def mX7_layReached_l6 (k0 : Nat) : Nat → Int32 → Mem → Option (Mem × Unit)
  | 0 => fun _ _ => none
  | n + 1 => mX7_layReached_b6 k0 (mX7_layReached_l6 k0 n)
theorem tX7_layReached_l6 {p : Program} {l : Launch} {e : Env} {s : State} {m : MethodId} {args : Array Value} {below : List Frame} {meth : Method} {c : Code} {G : GT} {kd : Nat → Nat × Nat} {ad : Nat → Nat} (C : Cx p s m args meth c cX7_layReached 3 none RX7 G kd ad) {k0 : Nat} (hk0 : kModel kd k0) {MO : Mem} {vo : Unit}   : ∀ (fuel : Nat) (x1 : Int32) (M : Mem), mX7_layReached_l6 k0 fuel x1 M = some (MO, vo) → At p l e (rmO 7 0 0) s m args below meth c 0 0 (MQ below (Qg G kd ad s.heap.size MO none) args s 0 0 (AS kd ad s.heap.size)) G kd ad 3 6 [(0, .ref (ad k0)), (1, .int x1)] [] M := by
  intro fuel
  induction fuel with
  | zero => intro x1 M hf; cases hf
  | succ n IH => exact tX7_layReached_b6 C hk0 IH
def mX7_layReached (k0 : Nat) (M : Mem) : Option (Mem × Unit) := cal (mX7_layOrders k0 M) (fun M3 _ => mX7_layReached_l6 k0 5000 (0 : Int32) M3)
set_option maxHeartbeats 4000000 in
set_option maxRecDepth 100000 in
theorem tX7_layReached (l : Launch) {G : GT} {kd : Nat → Nat × Nat} {ad : Nat → Nat} {k0 : Nat} (hk0 : kModel kd k0) {M : Mem} {MO : Mem} {vo : Unit} (hf : mX7_layReached k0 M = some (MO, vo)) (n : Nat) : Met l yX7_layReached (Cond.code yX7_layReached cX7_layReached 3 none :: WA) (rmO 7 0 0) (Pg G kd ad n [.ref (ad k0)] M) (Qg G kd ad n MO none) 0 0 (AS kd ad n) := by
  refine g_body (own := RX7) (by decide) rfl ?_ (Nat.le_of_ble_eq_true rfl)
  intro p e s m args below meth c C _ H locs ls hI hl
  obtain ⟨hx, hb, hml, hr, hown, hts, hlk, hK, hap, hsx⟩ := id C
  have hl : lv_has ls 3 [(0, .ref (ad k0))] := hl
  unfold mX7_layReached at hf
  refine lv_aload_n hx hb (dc tbX7_layReached_0_k 0 rfl) rfl (lv_at hl 0 rfl) ?_
  obtain ⟨M3, r2, q1, hf⟩ := cal_s hf
  refine g_callVv hx hb hml hown hts hK hap hsx hI (tX7_layOrders l hk0 q1 H.size) cv_X7_layOrders q_t9_93 rfl rfl ⟨Nat.le_of_ble_eq_true rfl, Nat.le_of_ble_eq_true rfl⟩ hk0.1 (by simp) rfl rfl rfl hl.1 rfl (Nat.le_of_ble_eq_true rfl) (dc tbX7_layReached_0_k 1 rfl) ⟨Nat.le_of_ble_eq_true rfl, Nat.le_of_ble_eq_true rfl⟩ (fun H locs hI => ?_)
  refine lv_iconst (v := 0) hx hb (dc tbX7_layReached_0_k 2 rfl) ic_0 ?_
  refine lv_istore_n (lv' := [(1, .int (0 : Int32)), (0, .ref (ad k0))]) hx hb (dc tbX7_layReached_0_k 3 rfl) rfl hl (by decide) rfl (fun ls hl => ?_)
  exact tX7_layReached_l6 C hk0 5000 (0 : Int32) M3 hf _ _ _ hI (lv_sub hl [1, 0] rfl)
theorem cv_X7_layReached : cvF RX7 yX7_layReached cX7_layReached 3 none 0 := ⟨q_t9_165, q_s7_1, q_t1_11, q_t9_166, by decide +kernel⟩
def mX7_lastSteps_b69 (k0 : Nat) (ih13 : Int32 → Int32 → Mem → Option (Mem × Int32)) (x2 : Int32) (y0 : Int32) (y1 : Int32) (M : Mem) : Option (Mem × Int32) := bnd ((y0 ||| y1)) (fun x1_70 => bnd (x2 + (1 : Int32)) (fun x2_71 => ih13 x1_70 x2_71 M))
set_option maxHeartbeats 4000000 in
set_option maxRecDepth 100000 in
theorem tX7_lastSteps_b69 {p : Program} {l : Launch} {e : Env} {s : State} {m : MethodId} {args : Array Value} {below : List Frame} {meth : Method} {c : Code} {G : GT} {kd : Nat → Nat × Nat} {ad : Nat → Nat} (C : Cx p s m args meth c cX7_lastSteps 4 (some .int) RX7 G kd ad) {k0 : Nat} (hk0 : kModel kd k0) {MO : Mem} {vo : Int32} {ih13 : Int32 → Int32 → Mem → Option (Mem × Int32)} (hih13 : ∀ (x1 : Int32) (x2 : Int32) (M : Mem), ih13 x1 x2 M = some (MO, vo) → At p l e (rmO 8 0 0) s m args below meth c 0 0 (MQ below (Qg G kd ad s.heap.size MO (some (.int vo))) args s 0 0 (AS kd ad s.heap.size)) G kd ad 4 13 [(0, .ref (ad k0)), (1, .int x1), (2, .int x2)] [] M) : ∀ (x2 : Int32) (y0 : Int32) (y1 : Int32) (M : Mem), mX7_lastSteps_b69 k0 ih13 x2 y0 y1 M = some (MO, vo) → At p l e (rmO 8 0 0) s m args below meth c 0 0 (MQ below (Qg G kd ad s.heap.size MO (some (.int vo))) args s 0 0 (AS kd ad s.heap.size)) G kd ad 4 69 [(0, .ref (ad k0)), (2, .int x2)] [.int y1, .int y0] M := by
  intro x2 y0 y1 M hf H locs ls hI hl
  obtain ⟨hx, hb, hml, hr, hown, hts, hlk, hK, hap, hsx⟩ := id C
  unfold mX7_lastSteps_b69 at hf
  refine lv_ior hx hb (dc tbX7_lastSteps_1_k 8 rfl) ?_
  obtain ⟨x1_70, e14, hf⟩ := bnd_s hf
  refine lv_ei e14 ?_
  refine lv_istore_n (lv' := [(1, .int x1_70), (0, .ref (ad k0)), (2, .int x2)]) hx hb (dc tbX7_lastSteps_1_k 9 rfl) rfl hl (by decide) rfl (fun ls hl => ?_)
  obtain ⟨x2_71, e15, hf⟩ := bnd_s hf
  refine lv_iinc (v := x2_71) (lv' := [(2, .int x2_71), (1, .int x1_70), (0, .ref (ad k0))]) hx hb (dc tbX7_lastSteps_1_k 10 rfl) hl (k := 2) rfl (ii_e e15 ic_1) (by decide) rfl (fun ls hl => ?_)
  refine lv_goto (tgt := 13) hx hb (dc tbX7_lastSteps_1_k 11 rfl) rfl ?_
  exact hih13 x1_70 x2_71 M hf _ _ _ hI (lv_sub hl [2, 1, 0] rfl)
def mX7_lastSteps_b68 (k0 : Nat) (ih13 : Int32 → Int32 → Mem → Option (Mem × Int32)) (x2 : Int32) (y0 : Int32) (M : Mem) : Option (Mem × Int32) := mX7_lastSteps_b69 k0 ih13 x2 y0 (0 : Int32) M
set_option maxHeartbeats 4000000 in
set_option maxRecDepth 100000 in
theorem tX7_lastSteps_b68 {p : Program} {l : Launch} {e : Env} {s : State} {m : MethodId} {args : Array Value} {below : List Frame} {meth : Method} {c : Code} {G : GT} {kd : Nat → Nat × Nat} {ad : Nat → Nat} (C : Cx p s m args meth c cX7_lastSteps 4 (some .int) RX7 G kd ad) {k0 : Nat} (hk0 : kModel kd k0) {MO : Mem} {vo : Int32} {ih13 : Int32 → Int32 → Mem → Option (Mem × Int32)} (hih13 : ∀ (x1 : Int32) (x2 : Int32) (M : Mem), ih13 x1 x2 M = some (MO, vo) → At p l e (rmO 8 0 0) s m args below meth c 0 0 (MQ below (Qg G kd ad s.heap.size MO (some (.int vo))) args s 0 0 (AS kd ad s.heap.size)) G kd ad 4 13 [(0, .ref (ad k0)), (1, .int x1), (2, .int x2)] [] M) : ∀ (x2 : Int32) (y0 : Int32) (M : Mem), mX7_lastSteps_b68 k0 ih13 x2 y0 M = some (MO, vo) → At p l e (rmO 8 0 0) s m args below meth c 0 0 (MQ below (Qg G kd ad s.heap.size MO (some (.int vo))) args s 0 0 (AS kd ad s.heap.size)) G kd ad 4 68 [(0, .ref (ad k0)), (2, .int x2)] [.int y0] M := by
  intro x2 y0 M hf H locs ls hI hl
  obtain ⟨hx, hb, hml, hr, hown, hts, hlk, hK, hap, hsx⟩ := id C
  unfold mX7_lastSteps_b68 at hf
  refine lv_iconst (v := 0) hx hb (dc tbX7_lastSteps_1_k 7 rfl) ic_0 ?_
  exact tX7_lastSteps_b69 C hk0 hih13 x2 y0 (0 : Int32) M hf _ _ _ hI (lv_sub hl [0, 1] rfl)
def mX7_lastSteps_b13 (k0 : Nat) (ih13 : Int32 → Int32 → Mem → Option (Mem × Int32)) (x1 : Int32) (x2 : Int32) (M : Mem) : Option (Mem × Int32) := chk (okb (0 : Int32) 86) (ite2 (((2 : Int32) * (rd M (k0 + 1) ((0 : Int32)).toNatClampNeg)) ≤ x2) (some (M, x1)) (cap (mX7_full k0 M) (fun r9 => bnd ((r9 &&& (((1 : Int32) <<< ((x2 / (2 : Int32)) &&& 31)) ^^^ (-1 : Int32)))) (fun x3_37 => chk (okb x3_37 256) (ite2 ((rd M (k0 + 15) (x3_37).toNatClampNeg) = 0) (mX7_lastSteps_b68 k0 ih13 x2 x1 M) (chk (okb (((16 : Int32) * x3_37) + x2) 4096) (ite2 ((rd M (k0 + 10) ((((16 : Int32) * x3_37) + x2)).toNatClampNeg) = 0) (mX7_lastSteps_b68 k0 ih13 x2 x1 M) (mX7_lastSteps_b69 k0 ih13 x2 x1 ((1 : Int32) <<< (x2 &&& 31)) M))))))))
set_option maxHeartbeats 4000000 in
set_option maxRecDepth 100000 in
theorem tX7_lastSteps_b13 {p : Program} {l : Launch} {e : Env} {s : State} {m : MethodId} {args : Array Value} {below : List Frame} {meth : Method} {c : Code} {G : GT} {kd : Nat → Nat × Nat} {ad : Nat → Nat} (C : Cx p s m args meth c cX7_lastSteps 4 (some .int) RX7 G kd ad) {k0 : Nat} (hk0 : kModel kd k0) {MO : Mem} {vo : Int32} {ih13 : Int32 → Int32 → Mem → Option (Mem × Int32)} (hih13 : ∀ (x1 : Int32) (x2 : Int32) (M : Mem), ih13 x1 x2 M = some (MO, vo) → At p l e (rmO 8 0 0) s m args below meth c 0 0 (MQ below (Qg G kd ad s.heap.size MO (some (.int vo))) args s 0 0 (AS kd ad s.heap.size)) G kd ad 4 13 [(0, .ref (ad k0)), (1, .int x1), (2, .int x2)] [] M) : ∀ (x1 : Int32) (x2 : Int32) (M : Mem), mX7_lastSteps_b13 k0 ih13 x1 x2 M = some (MO, vo) → At p l e (rmO 8 0 0) s m args below meth c 0 0 (MQ below (Qg G kd ad s.heap.size MO (some (.int vo))) args s 0 0 (AS kd ad s.heap.size)) G kd ad 4 13 [(0, .ref (ad k0)), (1, .int x1), (2, .int x2)] [] M := by
  intro x1 x2 M hf H locs ls hI hl
  obtain ⟨hx, hb, hml, hr, hown, hts, hlk, hK, hap, hsx⟩ := id C
  unfold mX7_lastSteps_b13 at hf
  refine lv_iload_n hx hb (dc tbX7_lastSteps_0_k 9 rfl) rfl (lv_at hl 2 rfl) ?_
  refine lv_iconst (v := 2) hx hb (dc tbX7_lastSteps_0_k 10 rfl) ic_2 ?_
  refine lv_aload_n hx hb (dc tbX7_lastSteps_0_k 11 rfl) rfl (lv_at hl 0 rfl) ?_
  refine gg7_0 hx hb hts hown hK hI hk0.1 q_t7_76 (dc tbX7_lastSteps_0_k 12 rfl) ?_
  refine lv_iconst (v := 0) hx hb (dc tbX7_lastSteps_0_k 13 rfl) ic_0 ?_
  obtain ⟨h6, hf⟩ := chk_s hf
  refine g_iald hx hb hK hI hk0.2.1 (okb_in h6) (dc tbX7_lastSteps_0_k 14 rfl) ?_
  refine lv_imul hx hb (dc tbX7_lastSteps_0_k 15 rfl) ?_
  refine lv_icmp_ge (tgt := 77) hx hb (dc tbX7_lastSteps_0_k 16 rfl) rfl (fun c7 => ?_) (fun c7 => ?_)
  · have hf := ite_t c7 hf
    refine lv_iload_n hx hb (dc tbX7_lastSteps_1_k 12 rfl) rfl (lv_at hl 1 rfl) ?_
    cases hf
    exact g_iret hx hb hr hlk hI (dc tbX7_lastSteps_1_k 13 rfl)
  · have hf := ite_f c7 hf
    refine lv_aload_n hx hb (dc tbX7_lastSteps_0_k 17 rfl) rfl (lv_at hl 0 rfl) ?_
    obtain ⟨r9, q8, hf⟩ := cap_s hf
    refine g_callVi hx hb hml hown hts hK hap hsx hI (tX7_full l hk0 q8 H.size) cv_X7_full q_t9_97 rfl rfl ⟨Nat.le_of_ble_eq_true rfl, Nat.le_of_ble_eq_true rfl⟩ hk0.1 (by simp) rfl rfl rfl hl.1 rfl (Nat.le_of_ble_eq_true rfl) (dc tbX7_lastSteps_0_k 18 rfl) ⟨Nat.le_of_ble_eq_true rfl, Nat.le_of_ble_eq_true rfl⟩ (fun H locs hI => ?_)
    refine lv_iconst (v := 1) hx hb (dc tbX7_lastSteps_0_k 19 rfl) ic_1 ?_
    refine lv_iload_n hx hb (dc tbX7_lastSteps_0_k 20 rfl) rfl (lv_at hl 2 rfl) ?_
    refine lv_iconst (v := 2) hx hb (dc tbX7_lastSteps_0_k 21 rfl) ic_2 ?_
    refine lv_idiv hx hb (dc tbX7_lastSteps_0_k 22 rfl) (by decide) ?_
    refine lv_ishl hx hb (dc tbX7_lastSteps_0_k 23 rfl) ?_
    refine lv_iconst (v := -1) hx hb (dc tbX7_lastSteps_0_k 24 rfl) ic_m1 ?_
    refine lv_ixor hx hb (dc tbX7_lastSteps_0_k 25 rfl) ?_
    refine lv_iand hx hb (dc tbX7_lastSteps_0_k 26 rfl) ?_
    obtain ⟨x3_37, e11, hf⟩ := bnd_s hf
    refine lv_ei e11 ?_
    refine lv_istore_n (lv' := [(3, .int x3_37), (0, .ref (ad k0)), (1, .int x1), (2, .int x2)]) hx hb (dc tbX7_lastSteps_0_k 27 rfl) rfl hl (by decide) rfl (fun ls hl => ?_)
    refine lv_iload_n hx hb (dc tbX7_lastSteps_0_k 28 rfl) rfl (lv_at hl 2 rfl) ?_
    refine lv_aload_n hx hb (dc tbX7_lastSteps_0_k 29 rfl) rfl (lv_at hl 1 rfl) ?_
    refine gg7_28 hx hb hts hown hK hI hk0.1 q_t7_104 (dc tbX7_lastSteps_0_k 30 rfl) ?_
    refine lv_iload_n hx hb (dc tbX7_lastSteps_0_k 31 rfl) rfl (lv_at hl 0 rfl) ?_
    obtain ⟨h12, hf⟩ := chk_s hf
    refine g_zald hx hb hK hI hk0.2.2.2.2.2.2.2.2.2.2.2.2.2.2.2.1 (okb_in h12) (dc tbX7_lastSteps_0_k 32 rfl) ?_
    refine lv_if_eq (tgt := 68) hx hb (dc tbX7_lastSteps_0_k 33 rfl) rfl (fun c13 => ?_) (fun c13 => ?_)
    · have hf := ite_t c13 hf
      exact tX7_lastSteps_b68 C hk0 hih13 x2 x1 M hf _ _ _ hI (lv_sub hl [1, 3] rfl)
    · have hf := ite_f c13 hf
      refine lv_aload_n hx hb (dc tbX7_lastSteps_0_k 34 rfl) rfl (lv_at hl 1 rfl) ?_
      refine gg7_23 hx hb hts hown hK hI hk0.1 q_t7_99 (dc tbX7_lastSteps_0_k 35 rfl) ?_
      refine lv_bipush (v := 16) hx hb (dc tbX7_lastSteps_0_k 36 rfl) bp_16 ?_
      refine lv_iload_n hx hb (dc tbX7_lastSteps_0_k 37 rfl) rfl (lv_at hl 0 rfl) ?_
      refine lv_imul hx hb (dc tbX7_lastSteps_0_k 38 rfl) ?_
      refine lv_iload_n hx hb (dc tbX7_lastSteps_0_k 39 rfl) rfl (lv_at hl 3 rfl) ?_
      refine lv_iadd hx hb (dc tbX7_lastSteps_1_k 0 rfl) ?_
      obtain ⟨h16, hf⟩ := chk_s hf
      refine g_zald hx hb hK hI hk0.2.2.2.2.2.2.2.2.2.2.1 (okb_in h16) (dc tbX7_lastSteps_1_k 1 rfl) ?_
      refine lv_if_eq (tgt := 68) hx hb (dc tbX7_lastSteps_1_k 2 rfl) rfl (fun c17 => ?_) (fun c17 => ?_)
      · have hf := ite_t c17 hf
        exact tX7_lastSteps_b68 C hk0 hih13 x2 x1 M hf _ _ _ hI (lv_sub hl [1, 3] rfl)
      · have hf := ite_f c17 hf
        refine lv_iconst (v := 1) hx hb (dc tbX7_lastSteps_1_k 3 rfl) ic_1 ?_
        refine lv_iload_n hx hb (dc tbX7_lastSteps_1_k 4 rfl) rfl (lv_at hl 3 rfl) ?_
        refine lv_ishl hx hb (dc tbX7_lastSteps_1_k 5 rfl) ?_
        refine lv_goto (tgt := 69) hx hb (dc tbX7_lastSteps_1_k 6 rfl) rfl ?_
        exact tX7_lastSteps_b69 C hk0 hih13 x2 x1 ((1 : Int32) <<< (x2 &&& 31)) M hf _ _ _ hI (lv_sub hl [1, 3] rfl)
def mX7_lastSteps_l13 (k0 : Nat) : Nat → Int32 → Int32 → Mem → Option (Mem × Int32)
  | 0 => fun _ _ _ => none
  | n + 1 => mX7_lastSteps_b13 k0 (mX7_lastSteps_l13 k0 n)
theorem tX7_lastSteps_l13 {p : Program} {l : Launch} {e : Env} {s : State} {m : MethodId} {args : Array Value} {below : List Frame} {meth : Method} {c : Code} {G : GT} {kd : Nat → Nat × Nat} {ad : Nat → Nat} (C : Cx p s m args meth c cX7_lastSteps 4 (some .int) RX7 G kd ad) {k0 : Nat} (hk0 : kModel kd k0) {MO : Mem} {vo : Int32}   : ∀ (fuel : Nat) (x1 : Int32) (x2 : Int32) (M : Mem), mX7_lastSteps_l13 k0 fuel x1 x2 M = some (MO, vo) → At p l e (rmO 8 0 0) s m args below meth c 0 0 (MQ below (Qg G kd ad s.heap.size MO (some (.int vo))) args s 0 0 (AS kd ad s.heap.size)) G kd ad 4 13 [(0, .ref (ad k0)), (1, .int x1), (2, .int x2)] [] M := by
  intro fuel
  induction fuel with
  | zero => intro x1 x2 M hf; cases hf
  | succ n IH => exact tX7_lastSteps_b13 C hk0 IH
def mX7_lastSteps (k0 : Nat) (M : Mem) : Option (Mem × Int32) := bnd (wr M k0 5 (0 : Int32)) (fun M1 => cal (mX7_layReached k0 M1) (fun M5 _ => mX7_lastSteps_l13 k0 5000 (0 : Int32) (0 : Int32) M5))
set_option maxHeartbeats 4000000 in
set_option maxRecDepth 100000 in
theorem tX7_lastSteps (l : Launch) {G : GT} {kd : Nat → Nat × Nat} {ad : Nat → Nat} {k0 : Nat} (hk0 : kModel kd k0) {M : Mem} {MO : Mem} {vo : Int32} (hf : mX7_lastSteps k0 M = some (MO, vo)) (n : Nat) : Met l yX7_lastSteps (Cond.code yX7_lastSteps cX7_lastSteps 4 (some .int) :: WA) (rmO 8 0 0) (Pg G kd ad n [.ref (ad k0)] M) (Qg G kd ad n MO (some (.int vo))) 0 0 (AS kd ad n) := by
  refine g_body (own := RX7) (by decide) rfl ?_ (Nat.le_of_ble_eq_true rfl)
  intro p e s m args below meth c C _ H locs ls hI hl
  obtain ⟨hx, hb, hml, hr, hown, hts, hlk, hK, hap, hsx⟩ := id C
  have hl : lv_has ls 4 [(0, .ref (ad k0))] := hl
  unfold mX7_lastSteps at hf
  refine lv_aload_n hx hb (dc tbX7_lastSteps_0_k 0 rfl) rfl (lv_at hl 0 rfl) ?_
  refine lv_iconst (v := 0) hx hb (dc tbX7_lastSteps_0_k 1 rfl) ic_0 ?_
  obtain ⟨M1, e2, hf⟩ := bnd_s hf
  refine gp7_5 hx hb hts hown hK hap hI hk0.1 q_t7_81 (dc tbX7_lastSteps_0_k 2 rfl) e2 (fun H locs hI => ?_)
  refine lv_aload_n hx hb (dc tbX7_lastSteps_0_k 3 rfl) rfl (lv_at hl 0 rfl) ?_
  obtain ⟨M5, r4, q3, hf⟩ := cal_s hf
  refine g_callVv hx hb hml hown hts hK hap hsx hI (tX7_layReached l hk0 q3 H.size) cv_X7_layReached q_t9_163 rfl rfl ⟨Nat.le_of_ble_eq_true rfl, Nat.le_of_ble_eq_true rfl⟩ hk0.1 (by simp) rfl rfl rfl hl.1 rfl (Nat.le_of_ble_eq_true rfl) (dc tbX7_lastSteps_0_k 4 rfl) ⟨Nat.le_of_ble_eq_true rfl, Nat.le_of_ble_eq_true rfl⟩ (fun H locs hI => ?_)
  refine lv_iconst (v := 0) hx hb (dc tbX7_lastSteps_0_k 5 rfl) ic_0 ?_
  refine lv_istore_n (lv' := [(1, .int (0 : Int32)), (0, .ref (ad k0))]) hx hb (dc tbX7_lastSteps_0_k 6 rfl) rfl hl (by decide) rfl (fun ls hl => ?_)
  refine lv_iconst (v := 0) hx hb (dc tbX7_lastSteps_0_k 7 rfl) ic_0 ?_
  refine lv_istore_n (lv' := [(2, .int (0 : Int32)), (1, .int (0 : Int32)), (0, .ref (ad k0))]) hx hb (dc tbX7_lastSteps_0_k 8 rfl) rfl hl (by decide) rfl (fun ls hl => ?_)
  exact tX7_lastSteps_l13 C hk0 5000 (0 : Int32) (0 : Int32) M5 hf _ _ _ hI (lv_sub hl [2, 1, 0] rfl)
theorem cv_X7_lastSteps : cvF RX7 yX7_lastSteps cX7_lastSteps 4 (some .int) 0 := ⟨q_t9_160, q_t9_161, q_t1_11, q_t9_162, by decide +kernel⟩
def mX7_mostBends_b93 (k0 : Nat) (ih13 : Int32 → Int32 → Mem → Option (Mem × Int32)) (x2 : Int32) (y0 : Int32) (M : Mem) : Option (Mem × Int32) := bnd (x2 + (1 : Int32)) (fun x2_94 => ih13 y0 x2_94 M)
set_option maxHeartbeats 4000000 in
set_option maxRecDepth 100000 in
theorem tX7_mostBends_b93 {p : Program} {l : Launch} {e : Env} {s : State} {m : MethodId} {args : Array Value} {below : List Frame} {meth : Method} {c : Code} {G : GT} {kd : Nat → Nat × Nat} {ad : Nat → Nat} (C : Cx p s m args meth c cX7_mostBends 5 (some .int) RX7 G kd ad) {k0 : Nat} (hk0 : kModel kd k0) {MO : Mem} {vo : Int32} {ih13 : Int32 → Int32 → Mem → Option (Mem × Int32)} (hih13 : ∀ (x1 : Int32) (x2 : Int32) (M : Mem), ih13 x1 x2 M = some (MO, vo) → At p l e (rmO 8 0 0) s m args below meth c 0 0 (MQ below (Qg G kd ad s.heap.size MO (some (.int vo))) args s 0 0 (AS kd ad s.heap.size)) G kd ad 5 13 [(0, .ref (ad k0)), (1, .int x1), (2, .int x2)] [] M) : ∀ (x2 : Int32) (y0 : Int32) (M : Mem), mX7_mostBends_b93 k0 ih13 x2 y0 M = some (MO, vo) → At p l e (rmO 8 0 0) s m args below meth c 0 0 (MQ below (Qg G kd ad s.heap.size MO (some (.int vo))) args s 0 0 (AS kd ad s.heap.size)) G kd ad 5 93 [(0, .ref (ad k0)), (2, .int x2)] [.int y0] M := by
  intro x2 y0 M hf H locs ls hI hl
  obtain ⟨hx, hb, hml, hr, hown, hts, hlk, hK, hap, hsx⟩ := id C
  unfold mX7_mostBends_b93 at hf
  refine lv_istore_n (lv' := [(1, .int y0), (0, .ref (ad k0)), (2, .int x2)]) hx hb (dc tbX7_mostBends_1_k 12 rfl) rfl hl (by decide) rfl (fun ls hl => ?_)
  obtain ⟨x2_94, e14, hf⟩ := bnd_s hf
  refine lv_iinc (v := x2_94) (lv' := [(2, .int x2_94), (1, .int y0), (0, .ref (ad k0))]) hx hb (dc tbX7_mostBends_1_k 13 rfl) hl (k := 2) rfl (ii_e e14 ic_1) (by decide) rfl (fun ls hl => ?_)
  refine lv_goto (tgt := 13) hx hb (dc tbX7_mostBends_1_k 14 rfl) rfl ?_
  exact hih13 y0 x2_94 M hf _ _ _ hI (lv_sub hl [2, 1, 0] rfl)
def mX7_mostBends_b67 (k0 : Nat) (ih13 : Int32 → Int32 → Mem → Option (Mem × Int32)) (ih26 : Int32 → Int32 → Int32 → Int32 → Mem → Option (Mem × Int32)) (x1 : Int32) (x2 : Int32) (x4 : Int32) (y0 : Int32) (y1 : Int32) (M : Mem) : Option (Mem × Int32) := bnd ((y0 + y1)) (fun x3_68 => bnd (x4 + (1 : Int32)) (fun x4_69 => ih26 x1 x2 x3_68 x4_69 M))
set_option maxHeartbeats 4000000 in
set_option maxRecDepth 100000 in
theorem tX7_mostBends_b67 {p : Program} {l : Launch} {e : Env} {s : State} {m : MethodId} {args : Array Value} {below : List Frame} {meth : Method} {c : Code} {G : GT} {kd : Nat → Nat × Nat} {ad : Nat → Nat} (C : Cx p s m args meth c cX7_mostBends 5 (some .int) RX7 G kd ad) {k0 : Nat} (hk0 : kModel kd k0) {MO : Mem} {vo : Int32} {ih13 : Int32 → Int32 → Mem → Option (Mem × Int32)} {ih26 : Int32 → Int32 → Int32 → Int32 → Mem → Option (Mem × Int32)} (hih13 : ∀ (x1 : Int32) (x2 : Int32) (M : Mem), ih13 x1 x2 M = some (MO, vo) → At p l e (rmO 8 0 0) s m args below meth c 0 0 (MQ below (Qg G kd ad s.heap.size MO (some (.int vo))) args s 0 0 (AS kd ad s.heap.size)) G kd ad 5 13 [(0, .ref (ad k0)), (1, .int x1), (2, .int x2)] [] M) (hih26 : ∀ (x1 : Int32) (x2 : Int32) (x3 : Int32) (x4 : Int32) (M : Mem), ih26 x1 x2 x3 x4 M = some (MO, vo) → At p l e (rmO 8 0 0) s m args below meth c 0 0 (MQ below (Qg G kd ad s.heap.size MO (some (.int vo))) args s 0 0 (AS kd ad s.heap.size)) G kd ad 5 26 [(0, .ref (ad k0)), (1, .int x1), (2, .int x2), (3, .int x3), (4, .int x4)] [] M) : ∀ (x1 : Int32) (x2 : Int32) (x4 : Int32) (y0 : Int32) (y1 : Int32) (M : Mem), mX7_mostBends_b67 k0 ih13 ih26 x1 x2 x4 y0 y1 M = some (MO, vo) → At p l e (rmO 8 0 0) s m args below meth c 0 0 (MQ below (Qg G kd ad s.heap.size MO (some (.int vo))) args s 0 0 (AS kd ad s.heap.size)) G kd ad 5 67 [(0, .ref (ad k0)), (1, .int x1), (2, .int x2), (4, .int x4)] [.int y1, .int y0] M := by
  intro x1 x2 x4 y0 y1 M hf H locs ls hI hl
  obtain ⟨hx, hb, hml, hr, hown, hts, hlk, hK, hap, hsx⟩ := id C
  unfold mX7_mostBends_b67 at hf
  refine lv_iadd hx hb (dc tbX7_mostBends_0_k 38 rfl) ?_
  obtain ⟨x3_68, e19, hf⟩ := bnd_s hf
  refine lv_ei e19 ?_
  refine lv_istore_n (lv' := [(3, .int x3_68), (0, .ref (ad k0)), (1, .int x1), (2, .int x2), (4, .int x4)]) hx hb (dc tbX7_mostBends_0_k 39 rfl) rfl hl (by decide) rfl (fun ls hl => ?_)
  obtain ⟨x4_69, e20, hf⟩ := bnd_s hf
  refine lv_iinc (v := x4_69) (lv' := [(4, .int x4_69), (3, .int x3_68), (0, .ref (ad k0)), (1, .int x1), (2, .int x2)]) hx hb (dc tbX7_mostBends_1_k 0 rfl) hl (k := 4) rfl (ii_e e20 ic_1) (by decide) rfl (fun ls hl => ?_)
  refine lv_goto (tgt := 26) hx hb (dc tbX7_mostBends_1_k 1 rfl) rfl ?_
  exact hih26 x1 x2 x3_68 x4_69 M hf _ _ _ hI (lv_sub hl [2, 3, 4, 1, 0] rfl)
def mX7_mostBends_b66 (k0 : Nat) (ih13 : Int32 → Int32 → Mem → Option (Mem × Int32)) (ih26 : Int32 → Int32 → Int32 → Int32 → Mem → Option (Mem × Int32)) (x1 : Int32) (x2 : Int32) (x4 : Int32) (y0 : Int32) (M : Mem) : Option (Mem × Int32) := mX7_mostBends_b67 k0 ih13 ih26 x1 x2 x4 y0 (0 : Int32) M
set_option maxHeartbeats 4000000 in
set_option maxRecDepth 100000 in
theorem tX7_mostBends_b66 {p : Program} {l : Launch} {e : Env} {s : State} {m : MethodId} {args : Array Value} {below : List Frame} {meth : Method} {c : Code} {G : GT} {kd : Nat → Nat × Nat} {ad : Nat → Nat} (C : Cx p s m args meth c cX7_mostBends 5 (some .int) RX7 G kd ad) {k0 : Nat} (hk0 : kModel kd k0) {MO : Mem} {vo : Int32} {ih13 : Int32 → Int32 → Mem → Option (Mem × Int32)} {ih26 : Int32 → Int32 → Int32 → Int32 → Mem → Option (Mem × Int32)} (hih13 : ∀ (x1 : Int32) (x2 : Int32) (M : Mem), ih13 x1 x2 M = some (MO, vo) → At p l e (rmO 8 0 0) s m args below meth c 0 0 (MQ below (Qg G kd ad s.heap.size MO (some (.int vo))) args s 0 0 (AS kd ad s.heap.size)) G kd ad 5 13 [(0, .ref (ad k0)), (1, .int x1), (2, .int x2)] [] M) (hih26 : ∀ (x1 : Int32) (x2 : Int32) (x3 : Int32) (x4 : Int32) (M : Mem), ih26 x1 x2 x3 x4 M = some (MO, vo) → At p l e (rmO 8 0 0) s m args below meth c 0 0 (MQ below (Qg G kd ad s.heap.size MO (some (.int vo))) args s 0 0 (AS kd ad s.heap.size)) G kd ad 5 26 [(0, .ref (ad k0)), (1, .int x1), (2, .int x2), (3, .int x3), (4, .int x4)] [] M) : ∀ (x1 : Int32) (x2 : Int32) (x4 : Int32) (y0 : Int32) (M : Mem), mX7_mostBends_b66 k0 ih13 ih26 x1 x2 x4 y0 M = some (MO, vo) → At p l e (rmO 8 0 0) s m args below meth c 0 0 (MQ below (Qg G kd ad s.heap.size MO (some (.int vo))) args s 0 0 (AS kd ad s.heap.size)) G kd ad 5 66 [(0, .ref (ad k0)), (1, .int x1), (2, .int x2), (4, .int x4)] [.int y0] M := by
  intro x1 x2 x4 y0 M hf H locs ls hI hl
  obtain ⟨hx, hb, hml, hr, hown, hts, hlk, hK, hap, hsx⟩ := id C
  unfold mX7_mostBends_b66 at hf
  refine lv_iconst (v := 0) hx hb (dc tbX7_mostBends_0_k 37 rfl) ic_0 ?_
  exact tX7_mostBends_b67 C hk0 hih13 hih26 x1 x2 x4 y0 (0 : Int32) M hf _ _ _ hI (lv_sub hl [0, 1, 2, 3] rfl)
def mX7_mostBends_b26 (k0 : Nat) (ih13 : Int32 → Int32 → Mem → Option (Mem × Int32)) (ih26 : Int32 → Int32 → Int32 → Int32 → Mem → Option (Mem × Int32)) (x1 : Int32) (x2 : Int32) (x3 : Int32) (x4 : Int32) (M : Mem) : Option (Mem × Int32) := chk (okb (0 : Int32) 86) (ite2 ((rd M (k0 + 1) ((0 : Int32)).toNatClampNeg) ≤ x4) (chk (okb x2 256) (ite2 ((rd M (k0 + 15) (x2).toNatClampNeg) = 0) (mX7_mostBends_b93 k0 ih13 x2 x1 M) (mX7_mostBends_b93 k0 ih13 x2 (imax x1 x3) M))) (cap (mX7_has x2 x4 M) (fun r16 => ite2 (r16 = 0) (mX7_mostBends_b66 k0 ih13 ih26 x1 x2 x4 x3 M) (chk (okb (52 : Int32) 86) (cap (mX7_has (rd M (k0 + 1) ((52 : Int32)).toNatClampNeg) x4 M) (fun r23 => ite2 (r23 = 0) (mX7_mostBends_b67 k0 ih13 ih26 x1 x2 x4 x3 (1 : Int32) M) (mX7_mostBends_b66 k0 ih13 ih26 x1 x2 x4 x3 M)))))))
set_option maxHeartbeats 4000000 in
set_option maxRecDepth 100000 in
theorem tX7_mostBends_b26 {p : Program} {l : Launch} {e : Env} {s : State} {m : MethodId} {args : Array Value} {below : List Frame} {meth : Method} {c : Code} {G : GT} {kd : Nat → Nat × Nat} {ad : Nat → Nat} (C : Cx p s m args meth c cX7_mostBends 5 (some .int) RX7 G kd ad) {k0 : Nat} (hk0 : kModel kd k0) {MO : Mem} {vo : Int32} {ih13 : Int32 → Int32 → Mem → Option (Mem × Int32)} {ih26 : Int32 → Int32 → Int32 → Int32 → Mem → Option (Mem × Int32)} (hih13 : ∀ (x1 : Int32) (x2 : Int32) (M : Mem), ih13 x1 x2 M = some (MO, vo) → At p l e (rmO 8 0 0) s m args below meth c 0 0 (MQ below (Qg G kd ad s.heap.size MO (some (.int vo))) args s 0 0 (AS kd ad s.heap.size)) G kd ad 5 13 [(0, .ref (ad k0)), (1, .int x1), (2, .int x2)] [] M) (hih26 : ∀ (x1 : Int32) (x2 : Int32) (x3 : Int32) (x4 : Int32) (M : Mem), ih26 x1 x2 x3 x4 M = some (MO, vo) → At p l e (rmO 8 0 0) s m args below meth c 0 0 (MQ below (Qg G kd ad s.heap.size MO (some (.int vo))) args s 0 0 (AS kd ad s.heap.size)) G kd ad 5 26 [(0, .ref (ad k0)), (1, .int x1), (2, .int x2), (3, .int x3), (4, .int x4)] [] M) : ∀ (x1 : Int32) (x2 : Int32) (x3 : Int32) (x4 : Int32) (M : Mem), mX7_mostBends_b26 k0 ih13 ih26 x1 x2 x3 x4 M = some (MO, vo) → At p l e (rmO 8 0 0) s m args below meth c 0 0 (MQ below (Qg G kd ad s.heap.size MO (some (.int vo))) args s 0 0 (AS kd ad s.heap.size)) G kd ad 5 26 [(0, .ref (ad k0)), (1, .int x1), (2, .int x2), (3, .int x3), (4, .int x4)] [] M := by
  intro x1 x2 x3 x4 M hf H locs ls hI hl
  obtain ⟨hx, hb, hml, hr, hown, hts, hlk, hK, hap, hsx⟩ := id C
  unfold mX7_mostBends_b26 at hf
  refine lv_iload hx hb (dc tbX7_mostBends_0_k 17 rfl) (lv_at hl 4 rfl) ?_
  refine lv_aload_n hx hb (dc tbX7_mostBends_0_k 18 rfl) rfl (lv_at hl 0 rfl) ?_
  refine gg7_0 hx hb hts hown hK hI hk0.1 q_t7_76 (dc tbX7_mostBends_0_k 19 rfl) ?_
  refine lv_iconst (v := 0) hx hb (dc tbX7_mostBends_0_k 20 rfl) ic_0 ?_
  obtain ⟨h10, hf⟩ := chk_s hf
  refine g_iald hx hb hK hI hk0.2.1 (okb_in h10) (dc tbX7_mostBends_0_k 21 rfl) ?_
  refine lv_icmp_ge (tgt := 75) hx hb (dc tbX7_mostBends_0_k 22 rfl) rfl (fun c11 => ?_) (fun c11 => ?_)
  · have hf := ite_t c11 hf
    refine lv_aload_n hx hb (dc tbX7_mostBends_1_k 2 rfl) rfl (lv_at hl 0 rfl) ?_
    refine gg7_28 hx hb hts hown hK hI hk0.1 q_t7_104 (dc tbX7_mostBends_1_k 3 rfl) ?_
    refine lv_iload_n hx hb (dc tbX7_mostBends_1_k 4 rfl) rfl (lv_at hl 2 rfl) ?_
    obtain ⟨h12, hf⟩ := chk_s hf
    refine g_zald hx hb hK hI hk0.2.2.2.2.2.2.2.2.2.2.2.2.2.2.2.1 (okb_in h12) (dc tbX7_mostBends_1_k 5 rfl) ?_
    refine lv_if_eq (tgt := 92) hx hb (dc tbX7_mostBends_1_k 6 rfl) rfl (fun c13 => ?_) (fun c13 => ?_)
    · have hf := ite_t c13 hf
      refine lv_iload_n hx hb (dc tbX7_mostBends_1_k 11 rfl) rfl (lv_at hl 1 rfl) ?_
      exact tX7_mostBends_b93 C hk0 hih13 x2 x1 M hf _ _ _ hI (lv_sub hl [0, 2] rfl)
    · have hf := ite_f c13 hf
      refine lv_iload_n hx hb (dc tbX7_mostBends_1_k 7 rfl) rfl (lv_at hl 1 rfl) ?_
      refine lv_iload_n hx hb (dc tbX7_mostBends_1_k 8 rfl) rfl (lv_at hl 3 rfl) ?_
      refine va_mmax hx hb (hml.trans hl.1.symm) hown (hts _ q_t8_166) (hts _ q_t2_203) (hts _ q_t1_22) (hts _ q_t2_204) (Nat.le_of_ble_eq_true rfl) (Nat.le_of_ble_eq_true rfl) (Nat.le_of_ble_eq_true rfl) (Nat.le_of_ble_eq_true rfl) (dc tbX7_mostBends_1_k 9 rfl) ?_
      refine lv_et (show (if _ then _ else _) = (imax x1 x3) from rfl) ?_
      refine lv_goto (tgt := 93) hx hb (dc tbX7_mostBends_1_k 10 rfl) rfl ?_
      exact tX7_mostBends_b93 C hk0 hih13 x2 (imax x1 x3) M hf _ _ _ hI (lv_sub hl [0, 2] rfl)
  · have hf := ite_f c11 hf
    refine lv_iload_n hx hb (dc tbX7_mostBends_0_k 23 rfl) rfl (lv_at hl 3 rfl) ?_
    refine lv_iload_n hx hb (dc tbX7_mostBends_0_k 24 rfl) rfl (lv_at hl 2 rfl) ?_
    refine lv_iload hx hb (dc tbX7_mostBends_0_k 25 rfl) (lv_at hl 4 rfl) ?_
    obtain ⟨r16, q15, hf⟩ := cap_s hf
    refine g_callSi hx hb hml hown hts hK hap hsx hI (tX7_has l  q15 H.size) cs_X7_has q_t8_226 rfl rfl ⟨Nat.le_of_ble_eq_true rfl, Nat.le_of_ble_eq_true rfl⟩ rfl hl.1 rfl (Nat.le_of_ble_eq_true rfl) (dc tbX7_mostBends_0_k 26 rfl) ⟨Nat.le_of_ble_eq_true rfl, Nat.le_of_ble_eq_true rfl⟩ (fun H locs hI => ?_)
    refine lv_if_eq (tgt := 66) hx hb (dc tbX7_mostBends_0_k 27 rfl) rfl (fun c18 => ?_) (fun c18 => ?_)
    · have hf := ite_t c18 hf
      exact tX7_mostBends_b66 C hk0 hih13 hih26 x1 x2 x4 x3 M hf _ _ _ hI (lv_sub hl [0, 1, 2, 4] rfl)
    · have hf := ite_f c18 hf
      refine lv_aload_n hx hb (dc tbX7_mostBends_0_k 28 rfl) rfl (lv_at hl 0 rfl) ?_
      refine gg7_0 hx hb hts hown hK hI hk0.1 q_t7_76 (dc tbX7_mostBends_0_k 29 rfl) ?_
      refine lv_bipush (v := 52) hx hb (dc tbX7_mostBends_0_k 30 rfl) bp_52 ?_
      obtain ⟨h21, hf⟩ := chk_s hf
      refine g_iald hx hb hK hI hk0.2.1 (okb_in h21) (dc tbX7_mostBends_0_k 31 rfl) ?_
      refine lv_iload hx hb (dc tbX7_mostBends_0_k 32 rfl) (lv_at hl 4 rfl) ?_
      obtain ⟨r23, q22, hf⟩ := cap_s hf
      refine g_callSi hx hb hml hown hts hK hap hsx hI (tX7_has l  q22 H.size) cs_X7_has q_t8_226 rfl rfl ⟨Nat.le_of_ble_eq_true rfl, Nat.le_of_ble_eq_true rfl⟩ rfl hl.1 rfl (Nat.le_of_ble_eq_true rfl) (dc tbX7_mostBends_0_k 33 rfl) ⟨Nat.le_of_ble_eq_true rfl, Nat.le_of_ble_eq_true rfl⟩ (fun H locs hI => ?_)
      refine lv_if_ne (tgt := 66) hx hb (dc tbX7_mostBends_0_k 34 rfl) rfl (fun c25 => ?_) (fun c25 => ?_)
      · have hf := ite_f c25 hf
        exact tX7_mostBends_b66 C hk0 hih13 hih26 x1 x2 x4 x3 M hf _ _ _ hI (lv_sub hl [0, 1, 2, 4] rfl)
      · have hf := ite_t c25 hf
        refine lv_iconst (v := 1) hx hb (dc tbX7_mostBends_0_k 35 rfl) ic_1 ?_
        refine lv_goto (tgt := 67) hx hb (dc tbX7_mostBends_0_k 36 rfl) rfl ?_
        exact tX7_mostBends_b67 C hk0 hih13 hih26 x1 x2 x4 x3 (1 : Int32) M hf _ _ _ hI (lv_sub hl [0, 1, 2, 4] rfl)
def mX7_mostBends_l26 (k0 : Nat) (ih13 : Int32 → Int32 → Mem → Option (Mem × Int32)) : Nat → Int32 → Int32 → Int32 → Int32 → Mem → Option (Mem × Int32)
  | 0 => fun _ _ _ _ _ => none
  | n + 1 => mX7_mostBends_b26 k0 ih13 (mX7_mostBends_l26 k0 ih13 n)
theorem tX7_mostBends_l26 {p : Program} {l : Launch} {e : Env} {s : State} {m : MethodId} {args : Array Value} {below : List Frame} {meth : Method} {c : Code} {G : GT} {kd : Nat → Nat × Nat} {ad : Nat → Nat} (C : Cx p s m args meth c cX7_mostBends 5 (some .int) RX7 G kd ad) {k0 : Nat} (hk0 : kModel kd k0) {MO : Mem} {vo : Int32} {ih13 : Int32 → Int32 → Mem → Option (Mem × Int32)} (hih13 : ∀ (x1 : Int32) (x2 : Int32) (M : Mem), ih13 x1 x2 M = some (MO, vo) → At p l e (rmO 8 0 0) s m args below meth c 0 0 (MQ below (Qg G kd ad s.heap.size MO (some (.int vo))) args s 0 0 (AS kd ad s.heap.size)) G kd ad 5 13 [(0, .ref (ad k0)), (1, .int x1), (2, .int x2)] [] M) : ∀ (fuel : Nat) (x1 : Int32) (x2 : Int32) (x3 : Int32) (x4 : Int32) (M : Mem), mX7_mostBends_l26 k0 ih13 fuel x1 x2 x3 x4 M = some (MO, vo) → At p l e (rmO 8 0 0) s m args below meth c 0 0 (MQ below (Qg G kd ad s.heap.size MO (some (.int vo))) args s 0 0 (AS kd ad s.heap.size)) G kd ad 5 26 [(0, .ref (ad k0)), (1, .int x1), (2, .int x2), (3, .int x3), (4, .int x4)] [] M := by
  intro fuel
  induction fuel with
  | zero => intro x1 x2 x3 x4 M hf; cases hf
  | succ n IH => exact tX7_mostBends_b26 C hk0 hih13 IH
def mX7_mostBends_b13 (k0 : Nat) (ih13 : Int32 → Int32 → Mem → Option (Mem × Int32)) (x1 : Int32) (x2 : Int32) (M : Mem) : Option (Mem × Int32) := cap (mX7_full k0 M) (fun r7 => ite2 (r7 < x2) (some (M, x1)) (mX7_mostBends_l26 k0 ih13 5000 x1 x2 (0 : Int32) (0 : Int32) M))
set_option maxHeartbeats 4000000 in
set_option maxRecDepth 100000 in
theorem tX7_mostBends_b13 {p : Program} {l : Launch} {e : Env} {s : State} {m : MethodId} {args : Array Value} {below : List Frame} {meth : Method} {c : Code} {G : GT} {kd : Nat → Nat × Nat} {ad : Nat → Nat} (C : Cx p s m args meth c cX7_mostBends 5 (some .int) RX7 G kd ad) {k0 : Nat} (hk0 : kModel kd k0) {MO : Mem} {vo : Int32} {ih13 : Int32 → Int32 → Mem → Option (Mem × Int32)} (hih13 : ∀ (x1 : Int32) (x2 : Int32) (M : Mem), ih13 x1 x2 M = some (MO, vo) → At p l e (rmO 8 0 0) s m args below meth c 0 0 (MQ below (Qg G kd ad s.heap.size MO (some (.int vo))) args s 0 0 (AS kd ad s.heap.size)) G kd ad 5 13 [(0, .ref (ad k0)), (1, .int x1), (2, .int x2)] [] M) : ∀ (x1 : Int32) (x2 : Int32) (M : Mem), mX7_mostBends_b13 k0 ih13 x1 x2 M = some (MO, vo) → At p l e (rmO 8 0 0) s m args below meth c 0 0 (MQ below (Qg G kd ad s.heap.size MO (some (.int vo))) args s 0 0 (AS kd ad s.heap.size)) G kd ad 5 13 [(0, .ref (ad k0)), (1, .int x1), (2, .int x2)] [] M := by
  intro x1 x2 M hf H locs ls hI hl
  obtain ⟨hx, hb, hml, hr, hown, hts, hlk, hK, hap, hsx⟩ := id C
  unfold mX7_mostBends_b13 at hf
  refine lv_iload_n hx hb (dc tbX7_mostBends_0_k 9 rfl) rfl (lv_at hl 2 rfl) ?_
  refine lv_aload_n hx hb (dc tbX7_mostBends_0_k 10 rfl) rfl (lv_at hl 0 rfl) ?_
  obtain ⟨r7, q6, hf⟩ := cap_s hf
  refine g_callVi hx hb hml hown hts hK hap hsx hI (tX7_full l hk0 q6 H.size) cv_X7_full q_t9_97 rfl rfl ⟨Nat.le_of_ble_eq_true rfl, Nat.le_of_ble_eq_true rfl⟩ hk0.1 (by simp) rfl rfl rfl hl.1 rfl (Nat.le_of_ble_eq_true rfl) (dc tbX7_mostBends_0_k 11 rfl) ⟨Nat.le_of_ble_eq_true rfl, Nat.le_of_ble_eq_true rfl⟩ (fun H locs hI => ?_)
  refine lv_icmp_gt (tgt := 100) hx hb (dc tbX7_mostBends_0_k 12 rfl) rfl (fun c9 => ?_) (fun c9 => ?_)
  · have hf := ite_t c9 hf
    refine lv_iload_n hx hb (dc tbX7_mostBends_1_k 15 rfl) rfl (lv_at hl 1 rfl) ?_
    cases hf
    exact g_iret hx hb hr hlk hI (dc tbX7_mostBends_1_k 16 rfl)
  · have hf := ite_f c9 hf
    refine lv_iconst (v := 0) hx hb (dc tbX7_mostBends_0_k 13 rfl) ic_0 ?_
    refine lv_istore_n (lv' := [(3, .int (0 : Int32)), (0, .ref (ad k0)), (1, .int x1), (2, .int x2)]) hx hb (dc tbX7_mostBends_0_k 14 rfl) rfl hl (by decide) rfl (fun ls hl => ?_)
    refine lv_iconst (v := 0) hx hb (dc tbX7_mostBends_0_k 15 rfl) ic_0 ?_
    refine lv_istore (lv' := [(4, .int (0 : Int32)), (3, .int (0 : Int32)), (0, .ref (ad k0)), (1, .int x1), (2, .int x2)]) hx hb (dc tbX7_mostBends_0_k 16 rfl) hl (by decide) rfl (fun ls hl => ?_)
    exact tX7_mostBends_l26 C hk0 hih13 5000 x1 x2 (0 : Int32) (0 : Int32) M hf _ _ _ hI (lv_sub hl [2, 3, 4, 1, 0] rfl)
def mX7_mostBends_l13 (k0 : Nat) : Nat → Int32 → Int32 → Mem → Option (Mem × Int32)
  | 0 => fun _ _ _ => none
  | n + 1 => mX7_mostBends_b13 k0 (mX7_mostBends_l13 k0 n)
theorem tX7_mostBends_l13 {p : Program} {l : Launch} {e : Env} {s : State} {m : MethodId} {args : Array Value} {below : List Frame} {meth : Method} {c : Code} {G : GT} {kd : Nat → Nat × Nat} {ad : Nat → Nat} (C : Cx p s m args meth c cX7_mostBends 5 (some .int) RX7 G kd ad) {k0 : Nat} (hk0 : kModel kd k0) {MO : Mem} {vo : Int32}   : ∀ (fuel : Nat) (x1 : Int32) (x2 : Int32) (M : Mem), mX7_mostBends_l13 k0 fuel x1 x2 M = some (MO, vo) → At p l e (rmO 8 0 0) s m args below meth c 0 0 (MQ below (Qg G kd ad s.heap.size MO (some (.int vo))) args s 0 0 (AS kd ad s.heap.size)) G kd ad 5 13 [(0, .ref (ad k0)), (1, .int x1), (2, .int x2)] [] M := by
  intro fuel
  induction fuel with
  | zero => intro x1 x2 M hf; cases hf
  | succ n IH => exact tX7_mostBends_b13 C hk0 IH
def mX7_mostBends (k0 : Nat) (M : Mem) : Option (Mem × Int32) := bnd (wr M k0 5 (0 : Int32)) (fun M1 => cal (mX7_layReached k0 M1) (fun M5 _ => mX7_mostBends_l13 k0 5000 (0 : Int32) (0 : Int32) M5))
set_option maxHeartbeats 4000000 in
set_option maxRecDepth 100000 in
theorem tX7_mostBends (l : Launch) {G : GT} {kd : Nat → Nat × Nat} {ad : Nat → Nat} {k0 : Nat} (hk0 : kModel kd k0) {M : Mem} {MO : Mem} {vo : Int32} (hf : mX7_mostBends k0 M = some (MO, vo)) (n : Nat) : Met l yX7_mostBends (Cond.code yX7_mostBends cX7_mostBends 5 (some .int) :: WA) (rmO 8 0 0) (Pg G kd ad n [.ref (ad k0)] M) (Qg G kd ad n MO (some (.int vo))) 0 0 (AS kd ad n) := by
  refine g_body (own := RX7) (by decide) rfl ?_ (Nat.le_of_ble_eq_true rfl)
  intro p e s m args below meth c C _ H locs ls hI hl
  obtain ⟨hx, hb, hml, hr, hown, hts, hlk, hK, hap, hsx⟩ := id C
  have hl : lv_has ls 5 [(0, .ref (ad k0))] := hl
  unfold mX7_mostBends at hf
  refine lv_aload_n hx hb (dc tbX7_mostBends_0_k 0 rfl) rfl (lv_at hl 0 rfl) ?_
  refine lv_iconst (v := 0) hx hb (dc tbX7_mostBends_0_k 1 rfl) ic_0 ?_
  obtain ⟨M1, e2, hf⟩ := bnd_s hf
  refine gp7_5 hx hb hts hown hK hap hI hk0.1 q_t7_81 (dc tbX7_mostBends_0_k 2 rfl) e2 (fun H locs hI => ?_)
  refine lv_aload_n hx hb (dc tbX7_mostBends_0_k 3 rfl) rfl (lv_at hl 0 rfl) ?_
  obtain ⟨M5, r4, q3, hf⟩ := cal_s hf
  refine g_callVv hx hb hml hown hts hK hap hsx hI (tX7_layReached l hk0 q3 H.size) cv_X7_layReached q_t9_163 rfl rfl ⟨Nat.le_of_ble_eq_true rfl, Nat.le_of_ble_eq_true rfl⟩ hk0.1 (by simp) rfl rfl rfl hl.1 rfl (Nat.le_of_ble_eq_true rfl) (dc tbX7_mostBends_0_k 4 rfl) ⟨Nat.le_of_ble_eq_true rfl, Nat.le_of_ble_eq_true rfl⟩ (fun H locs hI => ?_)
  refine lv_iconst (v := 0) hx hb (dc tbX7_mostBends_0_k 5 rfl) ic_0 ?_
  refine lv_istore_n (lv' := [(1, .int (0 : Int32)), (0, .ref (ad k0))]) hx hb (dc tbX7_mostBends_0_k 6 rfl) rfl hl (by decide) rfl (fun ls hl => ?_)
  refine lv_iconst (v := 0) hx hb (dc tbX7_mostBends_0_k 7 rfl) ic_0 ?_
  refine lv_istore_n (lv' := [(2, .int (0 : Int32)), (1, .int (0 : Int32)), (0, .ref (ad k0))]) hx hb (dc tbX7_mostBends_0_k 8 rfl) rfl hl (by decide) rfl (fun ls hl => ?_)
  exact tX7_mostBends_l13 C hk0 5000 (0 : Int32) (0 : Int32) M5 hf _ _ _ hI (lv_sub hl [2, 1, 0] rfl)
theorem cv_X7_mostBends : cvF RX7 yX7_mostBends cX7_mostBends 5 (some .int) 0 := ⟨q_t9_168, q_t9_169, q_t1_11, q_t9_170, by decide +kernel⟩
def mX7_greatestBeam_b59 (k0 : Nat) (x1 : Int32) (x2 : Int32) (M : Mem) : Option (Mem × Int32) := chk (okb (40 : Int32) 86) (bnd (wr M (k0 + 1) ((40 : Int32)).toNatClampNeg x1) (fun M8 => some (M8, x2)))
set_option maxHeartbeats 4000000 in
set_option maxRecDepth 100000 in
theorem tX7_greatestBeam_b59 {p : Program} {l : Launch} {e : Env} {s : State} {m : MethodId} {args : Array Value} {below : List Frame} {meth : Method} {c : Code} {G : GT} {kd : Nat → Nat × Nat} {ad : Nat → Nat} (C : Cx p s m args meth c cX7_greatestBeam 4 (some .int) RX7 G kd ad) {k0 : Nat} (hk0 : kModel kd k0) {MO : Mem} {vo : Int32}   : ∀ (x1 : Int32) (x2 : Int32) (M : Mem), mX7_greatestBeam_b59 k0 x1 x2 M = some (MO, vo) → At p l e (rmO 7 0 0) s m args below meth c 0 0 (MQ below (Qg G kd ad s.heap.size MO (some (.int vo))) args s 0 0 (AS kd ad s.heap.size)) G kd ad 4 59 [(0, .ref (ad k0)), (1, .int x1), (2, .int x2)] [] M := by
  intro x1 x2 M hf H locs ls hI hl
  obtain ⟨hx, hb, hml, hr, hown, hts, hlk, hK, hap, hsx⟩ := id C
  unfold mX7_greatestBeam_b59 at hf
  refine lv_aload_n hx hb (dc tbX7_greatestBeam_k 33 rfl) rfl (lv_at hl 0 rfl) ?_
  refine gg7_0 hx hb hts hown hK hI hk0.1 q_t7_76 (dc tbX7_greatestBeam_k 34 rfl) ?_
  refine lv_bipush (v := 40) hx hb (dc tbX7_greatestBeam_k 35 rfl) bp_40 ?_
  refine lv_iload_n hx hb (dc tbX7_greatestBeam_k 36 rfl) rfl (lv_at hl 1 rfl) ?_
  obtain ⟨h6, hf⟩ := chk_s hf
  obtain ⟨M8, e7, hf⟩ := bnd_s hf
  refine g_iast hx hb hK hap hI hk0.2.1 (okb_in h6) (dc tbX7_greatestBeam_k 37 rfl) e7 (fun H locs hI => ?_)
  refine lv_iload_n hx hb (dc tbX7_greatestBeam_k 38 rfl) rfl (lv_at hl 2 rfl) ?_
  cases hf
  exact g_iret hx hb hr hlk hI (dc tbX7_greatestBeam_k 39 rfl)
def mX7_greatestBeam_b52 (k0 : Nat) (ih19 : Int32 → Int32 → Int32 → Mem → Option (Mem × Int32)) (x1 : Int32) (x3 : Int32) (y0 : Int32) (M : Mem) : Option (Mem × Int32) := bnd (x3 + (-100 : Int32)) (fun x3_53 => ih19 x1 y0 x3_53 M)
set_option maxHeartbeats 4000000 in
set_option maxRecDepth 100000 in
theorem tX7_greatestBeam_b52 {p : Program} {l : Launch} {e : Env} {s : State} {m : MethodId} {args : Array Value} {below : List Frame} {meth : Method} {c : Code} {G : GT} {kd : Nat → Nat × Nat} {ad : Nat → Nat} (C : Cx p s m args meth c cX7_greatestBeam 4 (some .int) RX7 G kd ad) {k0 : Nat} (hk0 : kModel kd k0) {MO : Mem} {vo : Int32} {ih19 : Int32 → Int32 → Int32 → Mem → Option (Mem × Int32)} (hih19 : ∀ (x1 : Int32) (x2 : Int32) (x3 : Int32) (M : Mem), ih19 x1 x2 x3 M = some (MO, vo) → At p l e (rmO 7 0 0) s m args below meth c 0 0 (MQ below (Qg G kd ad s.heap.size MO (some (.int vo))) args s 0 0 (AS kd ad s.heap.size)) G kd ad 4 19 [(0, .ref (ad k0)), (1, .int x1), (2, .int x2), (3, .int x3)] [] M) : ∀ (x1 : Int32) (x3 : Int32) (y0 : Int32) (M : Mem), mX7_greatestBeam_b52 k0 ih19 x1 x3 y0 M = some (MO, vo) → At p l e (rmO 7 0 0) s m args below meth c 0 0 (MQ below (Qg G kd ad s.heap.size MO (some (.int vo))) args s 0 0 (AS kd ad s.heap.size)) G kd ad 4 52 [(0, .ref (ad k0)), (1, .int x1), (3, .int x3)] [.int y0] M := by
  intro x1 x3 y0 M hf H locs ls hI hl
  obtain ⟨hx, hb, hml, hr, hown, hts, hlk, hK, hap, hsx⟩ := id C
  unfold mX7_greatestBeam_b52 at hf
  refine lv_istore_n (lv' := [(2, .int y0), (0, .ref (ad k0)), (1, .int x1), (3, .int x3)]) hx hb (dc tbX7_greatestBeam_k 30 rfl) rfl hl (by decide) rfl (fun ls hl => ?_)
  obtain ⟨x3_53, e20, hf⟩ := bnd_s hf
  refine lv_iinc (v := x3_53) (lv' := [(3, .int x3_53), (2, .int y0), (0, .ref (ad k0)), (1, .int x1)]) hx hb (dc tbX7_greatestBeam_k 31 rfl) hl (k := 3) rfl (ii_e e20 ic_m100) (by decide) rfl (fun ls hl => ?_)
  refine lv_goto (tgt := 19) hx hb (dc tbX7_greatestBeam_k 32 rfl) rfl ?_
  exact hih19 x1 y0 x3_53 M hf _ _ _ hI (lv_sub hl [2, 3, 1, 0] rfl)
def mX7_greatestBeam_b19 (k0 : Nat) (ih19 : Int32 → Int32 → Int32 → Mem → Option (Mem × Int32)) (x1 : Int32) (x2 : Int32) (x3 : Int32) (M : Mem) : Option (Mem × Int32) := ite2 (x3 < 0) (mX7_greatestBeam_b59 k0 x1 x2 M) (ite2 (x2 = (-1 : Int32)) (chk (okb (40 : Int32) 86) (bnd (wr M (k0 + 1) ((40 : Int32)).toNatClampNeg x3) (fun M12 => cal (mX7_layOrders k0 M12) (fun M15 _ => cap (mX7_isOrder k0 M15) (fun r17 => ite2 (r17 = 0) (mX7_greatestBeam_b52 k0 ih19 x1 x3 (-1 : Int32) M15) (mX7_greatestBeam_b52 k0 ih19 x1 x3 x3 M15)))))) (mX7_greatestBeam_b59 k0 x1 x2 M))
set_option maxHeartbeats 4000000 in
set_option maxRecDepth 100000 in
theorem tX7_greatestBeam_b19 {p : Program} {l : Launch} {e : Env} {s : State} {m : MethodId} {args : Array Value} {below : List Frame} {meth : Method} {c : Code} {G : GT} {kd : Nat → Nat × Nat} {ad : Nat → Nat} (C : Cx p s m args meth c cX7_greatestBeam 4 (some .int) RX7 G kd ad) {k0 : Nat} (hk0 : kModel kd k0) {MO : Mem} {vo : Int32} {ih19 : Int32 → Int32 → Int32 → Mem → Option (Mem × Int32)} (hih19 : ∀ (x1 : Int32) (x2 : Int32) (x3 : Int32) (M : Mem), ih19 x1 x2 x3 M = some (MO, vo) → At p l e (rmO 7 0 0) s m args below meth c 0 0 (MQ below (Qg G kd ad s.heap.size MO (some (.int vo))) args s 0 0 (AS kd ad s.heap.size)) G kd ad 4 19 [(0, .ref (ad k0)), (1, .int x1), (2, .int x2), (3, .int x3)] [] M) : ∀ (x1 : Int32) (x2 : Int32) (x3 : Int32) (M : Mem), mX7_greatestBeam_b19 k0 ih19 x1 x2 x3 M = some (MO, vo) → At p l e (rmO 7 0 0) s m args below meth c 0 0 (MQ below (Qg G kd ad s.heap.size MO (some (.int vo))) args s 0 0 (AS kd ad s.heap.size)) G kd ad 4 19 [(0, .ref (ad k0)), (1, .int x1), (2, .int x2), (3, .int x3)] [] M := by
  intro x1 x2 x3 M hf H locs ls hI hl
  obtain ⟨hx, hb, hml, hr, hown, hts, hlk, hK, hap, hsx⟩ := id C
  unfold mX7_greatestBeam_b19 at hf
  refine lv_iload_n hx hb (dc tbX7_greatestBeam_k 12 rfl) rfl (lv_at hl 3 rfl) ?_
  refine lv_if_lt (tgt := 59) hx hb (dc tbX7_greatestBeam_k 13 rfl) rfl (fun c5 => ?_) (fun c5 => ?_)
  · have hf := ite_t c5 hf
    exact tX7_greatestBeam_b59 C hk0 x1 x2 M hf _ _ _ hI (lv_sub hl [0, 1, 2] rfl)
  · have hf := ite_f c5 hf
    refine lv_iload_n hx hb (dc tbX7_greatestBeam_k 14 rfl) rfl (lv_at hl 2 rfl) ?_
    refine lv_iconst (v := -1) hx hb (dc tbX7_greatestBeam_k 15 rfl) ic_m1 ?_
    refine lv_icmp_ne (tgt := 59) hx hb (dc tbX7_greatestBeam_k 16 rfl) rfl (fun c9 => ?_) (fun c9 => ?_)
    · have hf := ite_f c9 hf
      exact tX7_greatestBeam_b59 C hk0 x1 x2 M hf _ _ _ hI (lv_sub hl [0, 1, 2] rfl)
    · have hf := ite_t c9 hf
      refine lv_aload_n hx hb (dc tbX7_greatestBeam_k 17 rfl) rfl (lv_at hl 0 rfl) ?_
      refine gg7_0 hx hb hts hown hK hI hk0.1 q_t7_76 (dc tbX7_greatestBeam_k 18 rfl) ?_
      refine lv_bipush (v := 40) hx hb (dc tbX7_greatestBeam_k 19 rfl) bp_40 ?_
      refine lv_iload_n hx hb (dc tbX7_greatestBeam_k 20 rfl) rfl (lv_at hl 3 rfl) ?_
      obtain ⟨h10, hf⟩ := chk_s hf
      obtain ⟨M12, e11, hf⟩ := bnd_s hf
      refine g_iast hx hb hK hap hI hk0.2.1 (okb_in h10) (dc tbX7_greatestBeam_k 21 rfl) e11 (fun H locs hI => ?_)
      refine lv_aload_n hx hb (dc tbX7_greatestBeam_k 22 rfl) rfl (lv_at hl 0 rfl) ?_
      obtain ⟨M15, r14, q13, hf⟩ := cal_s hf
      refine g_callVv hx hb hml hown hts hK hap hsx hI (tX7_layOrders l hk0 q13 H.size) cv_X7_layOrders q_t9_93 rfl rfl ⟨Nat.le_of_ble_eq_true rfl, Nat.le_of_ble_eq_true rfl⟩ hk0.1 (by simp) rfl rfl rfl hl.1 rfl (Nat.le_of_ble_eq_true rfl) (dc tbX7_greatestBeam_k 23 rfl) ⟨Nat.le_of_ble_eq_true rfl, Nat.le_of_ble_eq_true rfl⟩ (fun H locs hI => ?_)
      refine lv_aload_n hx hb (dc tbX7_greatestBeam_k 24 rfl) rfl (lv_at hl 0 rfl) ?_
      obtain ⟨r17, q16, hf⟩ := cap_s hf
      refine g_callVi hx hb hml hown hts hK hap hsx hI (tX7_isOrder l hk0 q16 H.size) cv_X7_isOrder q_t9_127 rfl rfl ⟨Nat.le_of_ble_eq_true rfl, Nat.le_of_ble_eq_true rfl⟩ hk0.1 (by simp) rfl rfl rfl hl.1 rfl (Nat.le_of_ble_eq_true rfl) (dc tbX7_greatestBeam_k 25 rfl) ⟨Nat.le_of_ble_eq_true rfl, Nat.le_of_ble_eq_true rfl⟩ (fun H locs hI => ?_)
      refine lv_if_eq (tgt := 51) hx hb (dc tbX7_greatestBeam_k 26 rfl) rfl (fun c19 => ?_) (fun c19 => ?_)
      · have hf := ite_t c19 hf
        refine lv_iconst (v := -1) hx hb (dc tbX7_greatestBeam_k 29 rfl) ic_m1 ?_
        exact tX7_greatestBeam_b52 C hk0 hih19 x1 x3 (-1 : Int32) M15 hf _ _ _ hI (lv_sub hl [0, 1, 3] rfl)
      · have hf := ite_f c19 hf
        refine lv_iload_n hx hb (dc tbX7_greatestBeam_k 27 rfl) rfl (lv_at hl 3 rfl) ?_
        refine lv_goto (tgt := 52) hx hb (dc tbX7_greatestBeam_k 28 rfl) rfl ?_
        exact tX7_greatestBeam_b52 C hk0 hih19 x1 x3 x3 M15 hf _ _ _ hI (lv_sub hl [0, 1, 3] rfl)
def mX7_greatestBeam_l19 (k0 : Nat) : Nat → Int32 → Int32 → Int32 → Mem → Option (Mem × Int32)
  | 0 => fun _ _ _ _ => none
  | n + 1 => mX7_greatestBeam_b19 k0 (mX7_greatestBeam_l19 k0 n)
theorem tX7_greatestBeam_l19 {p : Program} {l : Launch} {e : Env} {s : State} {m : MethodId} {args : Array Value} {below : List Frame} {meth : Method} {c : Code} {G : GT} {kd : Nat → Nat × Nat} {ad : Nat → Nat} (C : Cx p s m args meth c cX7_greatestBeam 4 (some .int) RX7 G kd ad) {k0 : Nat} (hk0 : kModel kd k0) {MO : Mem} {vo : Int32}   : ∀ (fuel : Nat) (x1 : Int32) (x2 : Int32) (x3 : Int32) (M : Mem), mX7_greatestBeam_l19 k0 fuel x1 x2 x3 M = some (MO, vo) → At p l e (rmO 7 0 0) s m args below meth c 0 0 (MQ below (Qg G kd ad s.heap.size MO (some (.int vo))) args s 0 0 (AS kd ad s.heap.size)) G kd ad 4 19 [(0, .ref (ad k0)), (1, .int x1), (2, .int x2), (3, .int x3)] [] M := by
  intro fuel
  induction fuel with
  | zero => intro x1 x2 x3 M hf; cases hf
  | succ n IH => exact tX7_greatestBeam_b19 C hk0 IH
def mX7_greatestBeam (k0 : Nat) (M : Mem) : Option (Mem × Int32) := bnd (wr M k0 5 (0 : Int32)) (fun M1 => chk (okb (40 : Int32) 86) (bnd ((rd M1 (k0 + 1) ((40 : Int32)).toNatClampNeg)) (fun x1_12 => mX7_greatestBeam_l19 k0 5000 x1_12 (-1 : Int32) (2000 : Int32) M1)))
set_option maxHeartbeats 4000000 in
set_option maxRecDepth 100000 in
theorem tX7_greatestBeam (l : Launch) {G : GT} {kd : Nat → Nat × Nat} {ad : Nat → Nat} {k0 : Nat} (hk0 : kModel kd k0) {M : Mem} {MO : Mem} {vo : Int32} (hf : mX7_greatestBeam k0 M = some (MO, vo)) (n : Nat) : Met l yX7_greatestBeam (Cond.code yX7_greatestBeam cX7_greatestBeam 4 (some .int) :: WA) (rmO 7 0 0) (Pg G kd ad n [.ref (ad k0)] M) (Qg G kd ad n MO (some (.int vo))) 0 0 (AS kd ad n) := by
  refine g_body (own := RX7) (by decide) rfl ?_ (Nat.le_of_ble_eq_true rfl)
  intro p e s m args below meth c C _ H locs ls hI hl
  obtain ⟨hx, hb, hml, hr, hown, hts, hlk, hK, hap, hsx⟩ := id C
  have hl : lv_has ls 4 [(0, .ref (ad k0))] := hl
  unfold mX7_greatestBeam at hf
  refine lv_aload_n hx hb (dc tbX7_greatestBeam_k 0 rfl) rfl (lv_at hl 0 rfl) ?_
  refine lv_iconst (v := 0) hx hb (dc tbX7_greatestBeam_k 1 rfl) ic_0 ?_
  obtain ⟨M1, e2, hf⟩ := bnd_s hf
  refine gp7_5 hx hb hts hown hK hap hI hk0.1 q_t7_81 (dc tbX7_greatestBeam_k 2 rfl) e2 (fun H locs hI => ?_)
  refine lv_aload_n hx hb (dc tbX7_greatestBeam_k 3 rfl) rfl (lv_at hl 0 rfl) ?_
  refine gg7_0 hx hb hts hown hK hI hk0.1 q_t7_76 (dc tbX7_greatestBeam_k 4 rfl) ?_
  refine lv_bipush (v := 40) hx hb (dc tbX7_greatestBeam_k 5 rfl) bp_40 ?_
  obtain ⟨h3, hf⟩ := chk_s hf
  refine g_iald hx hb hK hI hk0.2.1 (okb_in h3) (dc tbX7_greatestBeam_k 6 rfl) ?_
  obtain ⟨x1_12, e4, hf⟩ := bnd_s hf
  refine lv_ei e4 ?_
  refine lv_istore_n (lv' := [(1, .int x1_12), (0, .ref (ad k0))]) hx hb (dc tbX7_greatestBeam_k 7 rfl) rfl hl (by decide) rfl (fun ls hl => ?_)
  refine lv_iconst (v := -1) hx hb (dc tbX7_greatestBeam_k 8 rfl) ic_m1 ?_
  refine lv_istore_n (lv' := [(2, .int (-1 : Int32)), (1, .int x1_12), (0, .ref (ad k0))]) hx hb (dc tbX7_greatestBeam_k 9 rfl) rfl hl (by decide) rfl (fun ls hl => ?_)
  refine lv_sipush (v := 2000) hx hb (dc tbX7_greatestBeam_k 10 rfl) sp_2000 ?_
  refine lv_istore_n (lv' := [(3, .int (2000 : Int32)), (2, .int (-1 : Int32)), (1, .int x1_12), (0, .ref (ad k0))]) hx hb (dc tbX7_greatestBeam_k 11 rfl) rfl hl (by decide) rfl (fun ls hl => ?_)
  exact tX7_greatestBeam_l19 C hk0 5000 x1_12 (-1 : Int32) (2000 : Int32) M1 hf _ _ _ hI (lv_sub hl [3, 2, 1, 0] rfl)
theorem cv_X7_greatestBeam : cvF RX7 yX7_greatestBeam cX7_greatestBeam 4 (some .int) 0 := ⟨q_t9_172, q_t9_173, q_t1_11, q_t9_174, by decide +kernel⟩
def mX7_costIfTurned_b21 (k0 : Nat) (x1 : Int32) (y1 : Int32) (y2 : Int32) (M : Mem) : Option (Mem × Int32) := cal (mX7_good_ k0 y1 y2 M) (fun M8 r7 => ite2 (r7 = 0) (some (M8, (0 : Int32))) (chk (okb ((11 : Int32) + x1) 86) (chk (okb ((11 : Int32) + x1) 86) (bnd (wr M8 (k0 + 1) (((11 : Int32) + x1)).toNatClampNeg ((1 : Int32) - (rd M8 (k0 + 1) (((11 : Int32) + x1)).toNatClampNeg))) (fun M13 => cal (mX7_leastNow k0 M13) (fun M16 r15 => chk (okb ((11 : Int32) + x1) 86) (chk (okb ((11 : Int32) + x1) 86) (bnd (wr M16 (k0 + 1) (((11 : Int32) + x1)).toNatClampNeg ((1 : Int32) - (rd M16 (k0 + 1) (((11 : Int32) + x1)).toNatClampNeg))) (fun M20 => some (M20, r15))))))))))
set_option maxHeartbeats 4000000 in
set_option maxRecDepth 100000 in
theorem tX7_costIfTurned_b21 {p : Program} {l : Launch} {e : Env} {s : State} {m : MethodId} {args : Array Value} {below : List Frame} {meth : Method} {c : Code} {G : GT} {kd : Nat → Nat × Nat} {ad : Nat → Nat} (C : Cx p s m args meth c cX7_costIfTurned 3 (some .int) RX7 G kd ad) {k0 : Nat} (hk0 : kModel kd k0) {MO : Mem} {vo : Int32}   : ∀ (x1 : Int32) (y1 : Int32) (y2 : Int32) (M : Mem), mX7_costIfTurned_b21 k0 x1 y1 y2 M = some (MO, vo) → At p l e (rmO 9 0 0) s m args below meth c 0 0 (MQ below (Qg G kd ad s.heap.size MO (some (.int vo))) args s 0 0 (AS kd ad s.heap.size)) G kd ad 3 21 [(0, .ref (ad k0)), (1, .int x1)] [.int y2, .int y1, .ref (ad k0)] M := by
  intro x1 y1 y2 M hf H locs ls hI hl
  obtain ⟨hx, hb, hml, hr, hown, hts, hlk, hK, hap, hsx⟩ := id C
  unfold mX7_costIfTurned_b21 at hf
  obtain ⟨M8, r7, q6, hf⟩ := cal_s hf
  refine g_callVi hx hb hml hown hts hK hap hsx hI (tX7_good_ l hk0 q6 H.size) cv_X7_good_ q_t8_186 rfl rfl ⟨Nat.le_of_ble_eq_true rfl, Nat.le_of_ble_eq_true rfl⟩ hk0.1 (by simp) rfl rfl rfl hl.1 rfl (Nat.le_of_ble_eq_true rfl) (dc tbX7_costIfTurned_0_k 12 rfl) ⟨Nat.le_of_ble_eq_true rfl, Nat.le_of_ble_eq_true rfl⟩ (fun H locs hI => ?_)
  refine lv_if_ne (tgt := 29) hx hb (dc tbX7_costIfTurned_0_k 13 rfl) rfl (fun c9 => ?_) (fun c9 => ?_)
  · have hf := ite_f c9 hf
    refine lv_aload_n hx hb (dc tbX7_costIfTurned_0_k 16 rfl) rfl (lv_at hl 0 rfl) ?_
    refine gg7_0 hx hb hts hown hK hI hk0.1 q_t7_76 (dc tbX7_costIfTurned_0_k 17 rfl) ?_
    refine lv_bipush (v := 11) hx hb (dc tbX7_costIfTurned_0_k 18 rfl) bp_11 ?_
    refine lv_iload_n hx hb (dc tbX7_costIfTurned_0_k 19 rfl) rfl (lv_at hl 1 rfl) ?_
    refine lv_iadd hx hb (dc tbX7_costIfTurned_0_k 20 rfl) ?_
    refine lv_iconst (v := 1) hx hb (dc tbX7_costIfTurned_0_k 21 rfl) ic_1 ?_
    refine lv_aload_n hx hb (dc tbX7_costIfTurned_0_k 22 rfl) rfl (lv_at hl 0 rfl) ?_
    refine gg7_0 hx hb hts hown hK hI hk0.1 q_t7_76 (dc tbX7_costIfTurned_0_k 23 rfl) ?_
    refine lv_bipush (v := 11) hx hb (dc tbX7_costIfTurned_0_k 24 rfl) bp_11 ?_
    refine lv_iload_n hx hb (dc tbX7_costIfTurned_0_k 25 rfl) rfl (lv_at hl 1 rfl) ?_
    refine lv_iadd hx hb (dc tbX7_costIfTurned_0_k 26 rfl) ?_
    obtain ⟨h10, hf⟩ := chk_s hf
    refine g_iald hx hb hK hI hk0.2.1 (okb_in h10) (dc tbX7_costIfTurned_0_k 27 rfl) ?_
    refine lv_isub hx hb (dc tbX7_costIfTurned_0_k 28 rfl) ?_
    obtain ⟨h11, hf⟩ := chk_s hf
    obtain ⟨M13, e12, hf⟩ := bnd_s hf
    refine g_iast hx hb hK hap hI hk0.2.1 (okb_in h11) (dc tbX7_costIfTurned_0_k 29 rfl) e12 (fun H locs hI => ?_)
    refine lv_aload_n hx hb (dc tbX7_costIfTurned_0_k 30 rfl) rfl (lv_at hl 0 rfl) ?_
    obtain ⟨M16, r15, q14, hf⟩ := cal_s hf
    refine g_callVi hx hb hml hown hts hK hap hsx hI (tX7_leastNow l hk0 q14 H.size) cv_X7_leastNow q_t9_109 rfl rfl ⟨Nat.le_of_ble_eq_true rfl, Nat.le_of_ble_eq_true rfl⟩ hk0.1 (by simp) rfl rfl rfl hl.1 rfl (Nat.le_of_ble_eq_true rfl) (dc tbX7_costIfTurned_0_k 31 rfl) ⟨Nat.le_of_ble_eq_true rfl, Nat.le_of_ble_eq_true rfl⟩ (fun H locs hI => ?_)
    refine lv_istore_n (lv' := [(2, .int r15), (0, .ref (ad k0)), (1, .int x1)]) hx hb (dc tbX7_costIfTurned_0_k 32 rfl) rfl hl (by decide) rfl (fun ls hl => ?_)
    refine lv_aload_n hx hb (dc tbX7_costIfTurned_0_k 33 rfl) rfl (lv_at hl 1 rfl) ?_
    refine gg7_0 hx hb hts hown hK hI hk0.1 q_t7_76 (dc tbX7_costIfTurned_0_k 34 rfl) ?_
    refine lv_bipush (v := 11) hx hb (dc tbX7_costIfTurned_0_k 35 rfl) bp_11 ?_
    refine lv_iload_n hx hb (dc tbX7_costIfTurned_0_k 36 rfl) rfl (lv_at hl 2 rfl) ?_
    refine lv_iadd hx hb (dc tbX7_costIfTurned_0_k 37 rfl) ?_
    refine lv_iconst (v := 1) hx hb (dc tbX7_costIfTurned_0_k 38 rfl) ic_1 ?_
    refine lv_aload_n hx hb (dc tbX7_costIfTurned_0_k 39 rfl) rfl (lv_at hl 1 rfl) ?_
    refine gg7_0 hx hb hts hown hK hI hk0.1 q_t7_76 (dc tbX7_costIfTurned_1_k 0 rfl) ?_
    refine lv_bipush (v := 11) hx hb (dc tbX7_costIfTurned_1_k 1 rfl) bp_11 ?_
    refine lv_iload_n hx hb (dc tbX7_costIfTurned_1_k 2 rfl) rfl (lv_at hl 2 rfl) ?_
    refine lv_iadd hx hb (dc tbX7_costIfTurned_1_k 3 rfl) ?_
    obtain ⟨h17, hf⟩ := chk_s hf
    refine g_iald hx hb hK hI hk0.2.1 (okb_in h17) (dc tbX7_costIfTurned_1_k 4 rfl) ?_
    refine lv_isub hx hb (dc tbX7_costIfTurned_1_k 5 rfl) ?_
    obtain ⟨h18, hf⟩ := chk_s hf
    obtain ⟨M20, e19, hf⟩ := bnd_s hf
    refine g_iast hx hb hK hap hI hk0.2.1 (okb_in h18) (dc tbX7_costIfTurned_1_k 6 rfl) e19 (fun H locs hI => ?_)
    refine lv_iload_n hx hb (dc tbX7_costIfTurned_1_k 7 rfl) rfl (lv_at hl 0 rfl) ?_
    cases hf
    exact g_iret hx hb hr hlk hI (dc tbX7_costIfTurned_1_k 8 rfl)
  · have hf := ite_t c9 hf
    refine lv_iconst (v := 0) hx hb (dc tbX7_costIfTurned_0_k 14 rfl) ic_0 ?_
    cases hf
    exact g_iret hx hb hr hlk hI (dc tbX7_costIfTurned_0_k 15 rfl)
def mX7_costIfTurned (k0 : Nat) (x1 : Int32) (M : Mem) : Option (Mem × Int32) := cap (mX7_isBend k0 x1 M) (fun r2 => chk (okb (53 : Int32) 86) (ite2 ((rd M (k0 + 1) ((53 : Int32)).toNatClampNeg) = 0) (mX7_costIfTurned_b21 k0 x1 r2 (1 : Int32) M) (mX7_costIfTurned_b21 k0 x1 r2 (0 : Int32) M)))
set_option maxHeartbeats 4000000 in
set_option maxRecDepth 100000 in
theorem tX7_costIfTurned (l : Launch) {G : GT} {kd : Nat → Nat × Nat} {ad : Nat → Nat} {k0 : Nat} (hk0 : kModel kd k0) {x1 : Int32} {M : Mem} {MO : Mem} {vo : Int32} (hf : mX7_costIfTurned k0 x1 M = some (MO, vo)) (n : Nat) : Met l yX7_costIfTurned (Cond.code yX7_costIfTurned cX7_costIfTurned 3 (some .int) :: WA) (rmO 9 0 0) (Pg G kd ad n [.ref (ad k0), .int x1] M) (Qg G kd ad n MO (some (.int vo))) 0 0 (AS kd ad n) := by
  refine g_body (own := RX7) (by decide) rfl ?_ (Nat.le_of_ble_eq_true rfl)
  intro p e s m args below meth c C _ H locs ls hI hl
  obtain ⟨hx, hb, hml, hr, hown, hts, hlk, hK, hap, hsx⟩ := id C
  have hl : lv_has ls 3 [(0, .ref (ad k0)), (1, .int x1)] := hl
  unfold mX7_costIfTurned at hf
  refine lv_aload_n hx hb (dc tbX7_costIfTurned_0_k 0 rfl) rfl (lv_at hl 0 rfl) ?_
  refine lv_aload_n hx hb (dc tbX7_costIfTurned_0_k 1 rfl) rfl (lv_at hl 0 rfl) ?_
  refine lv_iload_n hx hb (dc tbX7_costIfTurned_0_k 2 rfl) rfl (lv_at hl 1 rfl) ?_
  obtain ⟨r2, q1, hf⟩ := cap_s hf
  refine g_callVi hx hb hml hown hts hK hap hsx hI (tX7_isBend l hk0 q1 H.size) cv_X7_isBend q_t8_64 rfl rfl ⟨Nat.le_of_ble_eq_true rfl, Nat.le_of_ble_eq_true rfl⟩ hk0.1 (by simp) rfl rfl rfl hl.1 rfl (Nat.le_of_ble_eq_true rfl) (dc tbX7_costIfTurned_0_k 3 rfl) ⟨Nat.le_of_ble_eq_true rfl, Nat.le_of_ble_eq_true rfl⟩ (fun H locs hI => ?_)
  refine lv_aload_n hx hb (dc tbX7_costIfTurned_0_k 4 rfl) rfl (lv_at hl 0 rfl) ?_
  refine gg7_0 hx hb hts hown hK hI hk0.1 q_t7_76 (dc tbX7_costIfTurned_0_k 5 rfl) ?_
  refine lv_bipush (v := 53) hx hb (dc tbX7_costIfTurned_0_k 6 rfl) bp_53 ?_
  obtain ⟨h4, hf⟩ := chk_s hf
  refine g_iald hx hb hK hI hk0.2.1 (okb_in h4) (dc tbX7_costIfTurned_0_k 7 rfl) ?_
  refine lv_if_ne (tgt := 20) hx hb (dc tbX7_costIfTurned_0_k 8 rfl) rfl (fun c5 => ?_) (fun c5 => ?_)
  · have hf := ite_f c5 hf
    refine lv_iconst (v := 0) hx hb (dc tbX7_costIfTurned_0_k 11 rfl) ic_0 ?_
    exact tX7_costIfTurned_b21 C hk0 x1 r2 (0 : Int32) M hf _ _ _ hI (lv_sub hl [0, 1] rfl)
  · have hf := ite_t c5 hf
    refine lv_iconst (v := 1) hx hb (dc tbX7_costIfTurned_0_k 9 rfl) ic_1 ?_
    refine lv_goto (tgt := 21) hx hb (dc tbX7_costIfTurned_0_k 10 rfl) rfl ?_
    exact tX7_costIfTurned_b21 C hk0 x1 r2 (1 : Int32) M hf _ _ _ hI (lv_sub hl [0, 1] rfl)
theorem cv_X7_costIfTurned : cvF RX7 yX7_costIfTurned cX7_costIfTurned 3 (some .int) 1 := ⟨q_t9_176, q_t9_177, q_t1_11, q_t9_178, by decide +kernel⟩
def mX7_foldNow (k0 : Nat) (x1 : Int32) (x2 : Int32) (M : Mem) : Option (Mem × Int32) := cal (mX7_costNow k0 x1 x2 M) (fun M3 r2 => chk (okb (52 : Int32) 86) (cal (mX7_gaugeOf k0 x1 x2 (rd M3 (k0 + 1) ((52 : Int32)).toNatClampNeg) M3) (fun M7 r6 => cal (mX7_remember k0 M7) (fun M10 _ => chk (okb (53 : Int32) 86) (bnd (((54 : Int32) + ((4 : Int32) * (rd M10 (k0 + 1) ((53 : Int32)).toNatClampNeg)))) (fun x5_38 => chk (okb x5_38 86) (bnd (wr M10 (k0 + 1) (x5_38).toNatClampNeg x1) (fun M15 => chk (okb (x5_38 + (1 : Int32)) 86) (bnd (wr M15 (k0 + 1) ((x5_38 + (1 : Int32))).toNatClampNeg x2) (fun M18 => chk (okb (x5_38 + (2 : Int32)) 86) (bnd (wr M18 (k0 + 1) ((x5_38 + (2 : Int32))).toNatClampNeg r6) (fun M21 => chk (okb (x5_38 + (3 : Int32)) 86) (bnd (wr M21 (k0 + 1) ((x5_38 + (3 : Int32))).toNatClampNeg r2) (fun M24 => chk (okb (53 : Int32) 86) (chk (okb (53 : Int32) 86) (bnd (wr M24 (k0 + 1) ((53 : Int32)).toNatClampNeg ((rd M24 (k0 + 1) ((53 : Int32)).toNatClampNeg) + (1 : Int32))) (fun M28 => chk (okb (52 : Int32) 86) (chk (okb (52 : Int32) 86) (bnd (wr M28 (k0 + 1) ((52 : Int32)).toNatClampNeg ((rd M28 (k0 + 1) ((52 : Int32)).toNatClampNeg) ||| ((1 : Int32) <<< (x1 &&& 31)))) (fun M32 => some (M32, r2)))))))))))))))))))))
set_option maxHeartbeats 4000000 in
set_option maxRecDepth 100000 in
theorem tX7_foldNow (l : Launch) {G : GT} {kd : Nat → Nat × Nat} {ad : Nat → Nat} {k0 : Nat} (hk0 : kModel kd k0) {x1 : Int32} {x2 : Int32} {M : Mem} {MO : Mem} {vo : Int32} (hf : mX7_foldNow k0 x1 x2 M = some (MO, vo)) (n : Nat) : Met l yX7_foldNow (Cond.code yX7_foldNow cX7_foldNow 6 (some .int) :: WA) (rmO 6 0 0) (Pg G kd ad n [.ref (ad k0), .int x1, .int x2] M) (Qg G kd ad n MO (some (.int vo))) 0 0 (AS kd ad n) := by
  refine g_body (own := RX7) (by decide) rfl ?_ (Nat.le_of_ble_eq_true rfl)
  intro p e s m args below meth c C _ H locs ls hI hl
  obtain ⟨hx, hb, hml, hr, hown, hts, hlk, hK, hap, hsx⟩ := id C
  have hl : lv_has ls 6 [(0, .ref (ad k0)), (1, .int x1), (2, .int x2)] := hl
  unfold mX7_foldNow at hf
  refine lv_aload_n hx hb (dc tbX7_foldNow_0_k 0 rfl) rfl (lv_at hl 0 rfl) ?_
  refine lv_iload_n hx hb (dc tbX7_foldNow_0_k 1 rfl) rfl (lv_at hl 1 rfl) ?_
  refine lv_iload_n hx hb (dc tbX7_foldNow_0_k 2 rfl) rfl (lv_at hl 2 rfl) ?_
  obtain ⟨M3, r2, q1, hf⟩ := cal_s hf
  refine g_callVi hx hb hml hown hts hK hap hsx hI (tX7_costNow l hk0 q1 H.size) cv_X7_costNow q_t9_81 rfl rfl ⟨Nat.le_of_ble_eq_true rfl, Nat.le_of_ble_eq_true rfl⟩ hk0.1 (by simp) rfl rfl rfl hl.1 rfl (Nat.le_of_ble_eq_true rfl) (dc tbX7_foldNow_0_k 3 rfl) ⟨Nat.le_of_ble_eq_true rfl, Nat.le_of_ble_eq_true rfl⟩ (fun H locs hI => ?_)
  refine lv_istore_n (lv' := [(3, .int r2), (0, .ref (ad k0)), (1, .int x1), (2, .int x2)]) hx hb (dc tbX7_foldNow_0_k 4 rfl) rfl hl (by decide) rfl (fun ls hl => ?_)
  refine lv_aload_n hx hb (dc tbX7_foldNow_0_k 5 rfl) rfl (lv_at hl 1 rfl) ?_
  refine lv_iload_n hx hb (dc tbX7_foldNow_0_k 6 rfl) rfl (lv_at hl 2 rfl) ?_
  refine lv_iload_n hx hb (dc tbX7_foldNow_0_k 7 rfl) rfl (lv_at hl 3 rfl) ?_
  refine lv_aload_n hx hb (dc tbX7_foldNow_0_k 8 rfl) rfl (lv_at hl 1 rfl) ?_
  refine gg7_0 hx hb hts hown hK hI hk0.1 q_t7_76 (dc tbX7_foldNow_0_k 9 rfl) ?_
  refine lv_bipush (v := 52) hx hb (dc tbX7_foldNow_0_k 10 rfl) bp_52 ?_
  obtain ⟨h4, hf⟩ := chk_s hf
  refine g_iald hx hb hK hI hk0.2.1 (okb_in h4) (dc tbX7_foldNow_0_k 11 rfl) ?_
  obtain ⟨M7, r6, q5, hf⟩ := cal_s hf
  refine g_callVi hx hb hml hown hts hK hap hsx hI (tX7_gaugeOf l hk0 q5 H.size) cv_X7_gaugeOf q_t9_48 rfl rfl ⟨Nat.le_of_ble_eq_true rfl, Nat.le_of_ble_eq_true rfl⟩ hk0.1 (by simp) rfl rfl rfl hl.1 rfl (Nat.le_of_ble_eq_true rfl) (dc tbX7_foldNow_0_k 12 rfl) ⟨Nat.le_of_ble_eq_true rfl, Nat.le_of_ble_eq_true rfl⟩ (fun H locs hI => ?_)
  refine lv_istore (lv' := [(4, .int r6), (3, .int r2), (0, .ref (ad k0)), (1, .int x1), (2, .int x2)]) hx hb (dc tbX7_foldNow_0_k 13 rfl) hl (by decide) rfl (fun ls hl => ?_)
  refine lv_aload_n hx hb (dc tbX7_foldNow_0_k 14 rfl) rfl (lv_at hl 2 rfl) ?_
  obtain ⟨M10, r9, q8, hf⟩ := cal_s hf
  refine g_callVv hx hb hml hown hts hK hap hsx hI (tX7_remember l hk0 q8 H.size) cv_X7_remember q_t9_191 rfl rfl ⟨Nat.le_of_ble_eq_true rfl, Nat.le_of_ble_eq_true rfl⟩ hk0.1 (by simp) rfl rfl rfl hl.1 rfl (Nat.le_of_ble_eq_true rfl) (dc tbX7_foldNow_0_k 15 rfl) ⟨Nat.le_of_ble_eq_true rfl, Nat.le_of_ble_eq_true rfl⟩ (fun H locs hI => ?_)
  refine lv_bipush (v := 54) hx hb (dc tbX7_foldNow_0_k 16 rfl) bp_54 ?_
  refine lv_iconst (v := 4) hx hb (dc tbX7_foldNow_0_k 17 rfl) ic_4 ?_
  refine lv_aload_n hx hb (dc tbX7_foldNow_0_k 18 rfl) rfl (lv_at hl 2 rfl) ?_
  refine gg7_0 hx hb hts hown hK hI hk0.1 q_t7_76 (dc tbX7_foldNow_0_k 19 rfl) ?_
  refine lv_bipush (v := 53) hx hb (dc tbX7_foldNow_0_k 20 rfl) bp_53 ?_
  obtain ⟨h11, hf⟩ := chk_s hf
  refine g_iald hx hb hK hI hk0.2.1 (okb_in h11) (dc tbX7_foldNow_0_k 21 rfl) ?_
  refine lv_imul hx hb (dc tbX7_foldNow_0_k 22 rfl) ?_
  refine lv_iadd hx hb (dc tbX7_foldNow_0_k 23 rfl) ?_
  obtain ⟨x5_38, e12, hf⟩ := bnd_s hf
  refine lv_ei e12 ?_
  refine lv_istore (lv' := [(5, .int x5_38), (4, .int r6), (3, .int r2), (0, .ref (ad k0)), (1, .int x1), (2, .int x2)]) hx hb (dc tbX7_foldNow_0_k 24 rfl) hl (by decide) rfl (fun ls hl => ?_)
  refine lv_aload_n hx hb (dc tbX7_foldNow_0_k 25 rfl) rfl (lv_at hl 3 rfl) ?_
  refine gg7_0 hx hb hts hown hK hI hk0.1 q_t7_76 (dc tbX7_foldNow_0_k 26 rfl) ?_
  refine lv_iload hx hb (dc tbX7_foldNow_0_k 27 rfl) (lv_at hl 0 rfl) ?_
  refine lv_iload_n hx hb (dc tbX7_foldNow_0_k 28 rfl) rfl (lv_at hl 4 rfl) ?_
  obtain ⟨h13, hf⟩ := chk_s hf
  obtain ⟨M15, e14, hf⟩ := bnd_s hf
  refine g_iast hx hb hK hap hI hk0.2.1 (okb_in h13) (dc tbX7_foldNow_0_k 29 rfl) e14 (fun H locs hI => ?_)
  refine lv_aload_n hx hb (dc tbX7_foldNow_0_k 30 rfl) rfl (lv_at hl 3 rfl) ?_
  refine gg7_0 hx hb hts hown hK hI hk0.1 q_t7_76 (dc tbX7_foldNow_0_k 31 rfl) ?_
  refine lv_iload hx hb (dc tbX7_foldNow_0_k 32 rfl) (lv_at hl 0 rfl) ?_
  refine lv_iconst (v := 1) hx hb (dc tbX7_foldNow_0_k 33 rfl) ic_1 ?_
  refine lv_iadd hx hb (dc tbX7_foldNow_0_k 34 rfl) ?_
  refine lv_iload_n hx hb (dc tbX7_foldNow_0_k 35 rfl) rfl (lv_at hl 5 rfl) ?_
  obtain ⟨h16, hf⟩ := chk_s hf
  obtain ⟨M18, e17, hf⟩ := bnd_s hf
  refine g_iast hx hb hK hap hI hk0.2.1 (okb_in h16) (dc tbX7_foldNow_0_k 36 rfl) e17 (fun H locs hI => ?_)
  refine lv_aload_n hx hb (dc tbX7_foldNow_0_k 37 rfl) rfl (lv_at hl 3 rfl) ?_
  refine gg7_0 hx hb hts hown hK hI hk0.1 q_t7_76 (dc tbX7_foldNow_0_k 38 rfl) ?_
  refine lv_iload hx hb (dc tbX7_foldNow_0_k 39 rfl) (lv_at hl 0 rfl) ?_
  refine lv_iconst (v := 2) hx hb (dc tbX7_foldNow_1_k 0 rfl) ic_2 ?_
  refine lv_iadd hx hb (dc tbX7_foldNow_1_k 1 rfl) ?_
  refine lv_iload hx hb (dc tbX7_foldNow_1_k 2 rfl) (lv_at hl 1 rfl) ?_
  obtain ⟨h19, hf⟩ := chk_s hf
  obtain ⟨M21, e20, hf⟩ := bnd_s hf
  refine g_iast hx hb hK hap hI hk0.2.1 (okb_in h19) (dc tbX7_foldNow_1_k 3 rfl) e20 (fun H locs hI => ?_)
  refine lv_aload_n hx hb (dc tbX7_foldNow_1_k 4 rfl) rfl (lv_at hl 3 rfl) ?_
  refine gg7_0 hx hb hts hown hK hI hk0.1 q_t7_76 (dc tbX7_foldNow_1_k 5 rfl) ?_
  refine lv_iload hx hb (dc tbX7_foldNow_1_k 6 rfl) (lv_at hl 0 rfl) ?_
  refine lv_iconst (v := 3) hx hb (dc tbX7_foldNow_1_k 7 rfl) ic_3 ?_
  refine lv_iadd hx hb (dc tbX7_foldNow_1_k 8 rfl) ?_
  refine lv_iload_n hx hb (dc tbX7_foldNow_1_k 9 rfl) rfl (lv_at hl 2 rfl) ?_
  obtain ⟨h22, hf⟩ := chk_s hf
  obtain ⟨M24, e23, hf⟩ := bnd_s hf
  refine g_iast hx hb hK hap hI hk0.2.1 (okb_in h22) (dc tbX7_foldNow_1_k 10 rfl) e23 (fun H locs hI => ?_)
  refine lv_aload_n hx hb (dc tbX7_foldNow_1_k 11 rfl) rfl (lv_at hl 3 rfl) ?_
  refine gg7_0 hx hb hts hown hK hI hk0.1 q_t7_76 (dc tbX7_foldNow_1_k 12 rfl) ?_
  refine lv_bipush (v := 53) hx hb (dc tbX7_foldNow_1_k 13 rfl) bp_53 ?_
  refine lv_dup2_11 hx hb (dc tbX7_foldNow_1_k 14 rfl) rfl rfl ?_
  obtain ⟨h25, hf⟩ := chk_s hf
  refine g_iald hx hb hK hI hk0.2.1 (okb_in h25) (dc tbX7_foldNow_1_k 15 rfl) ?_
  refine lv_iconst (v := 1) hx hb (dc tbX7_foldNow_1_k 16 rfl) ic_1 ?_
  refine lv_iadd hx hb (dc tbX7_foldNow_1_k 17 rfl) ?_
  obtain ⟨h26, hf⟩ := chk_s hf
  obtain ⟨M28, e27, hf⟩ := bnd_s hf
  refine g_iast hx hb hK hap hI hk0.2.1 (okb_in h26) (dc tbX7_foldNow_1_k 18 rfl) e27 (fun H locs hI => ?_)
  refine lv_aload_n hx hb (dc tbX7_foldNow_1_k 19 rfl) rfl (lv_at hl 3 rfl) ?_
  refine gg7_0 hx hb hts hown hK hI hk0.1 q_t7_76 (dc tbX7_foldNow_1_k 20 rfl) ?_
  refine lv_bipush (v := 52) hx hb (dc tbX7_foldNow_1_k 21 rfl) bp_52 ?_
  refine lv_dup2_11 hx hb (dc tbX7_foldNow_1_k 22 rfl) rfl rfl ?_
  obtain ⟨h29, hf⟩ := chk_s hf
  refine g_iald hx hb hK hI hk0.2.1 (okb_in h29) (dc tbX7_foldNow_1_k 23 rfl) ?_
  refine lv_iconst (v := 1) hx hb (dc tbX7_foldNow_1_k 24 rfl) ic_1 ?_
  refine lv_iload_n hx hb (dc tbX7_foldNow_1_k 25 rfl) rfl (lv_at hl 4 rfl) ?_
  refine lv_ishl hx hb (dc tbX7_foldNow_1_k 26 rfl) ?_
  refine lv_ior hx hb (dc tbX7_foldNow_1_k 27 rfl) ?_
  obtain ⟨h30, hf⟩ := chk_s hf
  obtain ⟨M32, e31, hf⟩ := bnd_s hf
  refine g_iast hx hb hK hap hI hk0.2.1 (okb_in h30) (dc tbX7_foldNow_1_k 28 rfl) e31 (fun H locs hI => ?_)
  refine lv_iload_n hx hb (dc tbX7_foldNow_1_k 29 rfl) rfl (lv_at hl 2 rfl) ?_
  cases hf
  exact g_iret hx hb hr hlk hI (dc tbX7_foldNow_1_k 30 rfl)
theorem cv_X7_foldNow : cvF RX7 yX7_foldNow cX7_foldNow 6 (some .int) 2 := ⟨q_t9_189, q_s7_3, q_t1_11, q_t9_190, by decide +kernel⟩
def mX7_fold_b46 (k0 : Nat) (x1 : Int32) (x2 : Int32) (y1 : Int32) (y2 : Int32) (y3 : Int32) (M : Mem) : Option (Mem × Int32) := cal (mX7_good__ k0 y1 y2 y3 M) (fun M10 r9 => ite2 (r9 = 0) (some (M10, (0 : Int32))) (cal (mX7_foldNow k0 x1 x2 M10) (fun M14 r13 => some (M14, r13))))
set_option maxHeartbeats 4000000 in
set_option maxRecDepth 100000 in
theorem tX7_fold_b46 {p : Program} {l : Launch} {e : Env} {s : State} {m : MethodId} {args : Array Value} {below : List Frame} {meth : Method} {c : Code} {G : GT} {kd : Nat → Nat × Nat} {ad : Nat → Nat} (C : Cx p s m args meth c cX7_fold 5 (some .int) RX7 G kd ad) {k0 : Nat} (hk0 : kModel kd k0) {MO : Mem} {vo : Int32}   : ∀ (x1 : Int32) (x2 : Int32) (y1 : Int32) (y2 : Int32) (y3 : Int32) (M : Mem), mX7_fold_b46 k0 x1 x2 y1 y2 y3 M = some (MO, vo) → At p l e (rmO 7 0 0) s m args below meth c 0 0 (MQ below (Qg G kd ad s.heap.size MO (some (.int vo))) args s 0 0 (AS kd ad s.heap.size)) G kd ad 5 46 [(0, .ref (ad k0)), (1, .int x1), (2, .int x2)] [.int y3, .int y2, .int y1, .ref (ad k0)] M := by
  intro x1 x2 y1 y2 y3 M hf H locs ls hI hl
  obtain ⟨hx, hb, hml, hr, hown, hts, hlk, hK, hap, hsx⟩ := id C
  unfold mX7_fold_b46 at hf
  obtain ⟨M10, r9, q8, hf⟩ := cal_s hf
  refine g_callVi hx hb hml hown hts hK hap hsx hI (tX7_good__ l hk0 q8 H.size) cv_X7_good__ q_t9_183 rfl rfl ⟨Nat.le_of_ble_eq_true rfl, Nat.le_of_ble_eq_true rfl⟩ hk0.1 (by simp) rfl rfl rfl hl.1 rfl (Nat.le_of_ble_eq_true rfl) (dc tbX7_fold_k 26 rfl) ⟨Nat.le_of_ble_eq_true rfl, Nat.le_of_ble_eq_true rfl⟩ (fun H locs hI => ?_)
  refine lv_if_eq (tgt := 61) hx hb (dc tbX7_fold_k 27 rfl) rfl (fun c11 => ?_) (fun c11 => ?_)
  · have hf := ite_t c11 hf
    refine lv_iconst (v := 0) hx hb (dc tbX7_fold_k 33 rfl) ic_0 ?_
    cases hf
    exact g_iret hx hb hr hlk hI (dc tbX7_fold_k 34 rfl)
  · have hf := ite_f c11 hf
    refine lv_aload_n hx hb (dc tbX7_fold_k 28 rfl) rfl (lv_at hl 0 rfl) ?_
    refine lv_iload_n hx hb (dc tbX7_fold_k 29 rfl) rfl (lv_at hl 1 rfl) ?_
    refine lv_iload_n hx hb (dc tbX7_fold_k 30 rfl) rfl (lv_at hl 2 rfl) ?_
    obtain ⟨M14, r13, q12, hf⟩ := cal_s hf
    refine g_callVi hx hb hml hown hts hK hap hsx hI (tX7_foldNow l hk0 q12 H.size) cv_X7_foldNow q_t9_187 rfl rfl ⟨Nat.le_of_ble_eq_true rfl, Nat.le_of_ble_eq_true rfl⟩ hk0.1 (by simp) rfl rfl rfl hl.1 rfl (Nat.le_of_ble_eq_true rfl) (dc tbX7_fold_k 31 rfl) ⟨Nat.le_of_ble_eq_true rfl, Nat.le_of_ble_eq_true rfl⟩ (fun H locs hI => ?_)
    refine lv_goto (tgt := 62) hx hb (dc tbX7_fold_k 32 rfl) rfl ?_
    cases hf
    exact g_iret hx hb hr hlk hI (dc tbX7_fold_k 34 rfl)
def mX7_fold_b45 (k0 : Nat) (x1 : Int32) (x2 : Int32) (y1 : Int32) (y2 : Int32) (M : Mem) : Option (Mem × Int32) := mX7_fold_b46 k0 x1 x2 y1 y2 (0 : Int32) M
set_option maxHeartbeats 4000000 in
set_option maxRecDepth 100000 in
theorem tX7_fold_b45 {p : Program} {l : Launch} {e : Env} {s : State} {m : MethodId} {args : Array Value} {below : List Frame} {meth : Method} {c : Code} {G : GT} {kd : Nat → Nat × Nat} {ad : Nat → Nat} (C : Cx p s m args meth c cX7_fold 5 (some .int) RX7 G kd ad) {k0 : Nat} (hk0 : kModel kd k0) {MO : Mem} {vo : Int32}   : ∀ (x1 : Int32) (x2 : Int32) (y1 : Int32) (y2 : Int32) (M : Mem), mX7_fold_b45 k0 x1 x2 y1 y2 M = some (MO, vo) → At p l e (rmO 7 0 0) s m args below meth c 0 0 (MQ below (Qg G kd ad s.heap.size MO (some (.int vo))) args s 0 0 (AS kd ad s.heap.size)) G kd ad 5 45 [(0, .ref (ad k0)), (1, .int x1), (2, .int x2)] [.int y2, .int y1, .ref (ad k0)] M := by
  intro x1 x2 y1 y2 M hf H locs ls hI hl
  obtain ⟨hx, hb, hml, hr, hown, hts, hlk, hK, hap, hsx⟩ := id C
  unfold mX7_fold_b45 at hf
  refine lv_iconst (v := 0) hx hb (dc tbX7_fold_k 25 rfl) ic_0 ?_
  exact tX7_fold_b46 C hk0 x1 x2 y1 y2 (0 : Int32) M hf _ _ _ hI (lv_sub hl [0, 1, 2] rfl)
def mX7_fold (k0 : Nat) (x1 : Int32) (x2 : Int32) (M : Mem) : Option (Mem × Int32) := cap (mX7_isBend k0 x1 M) (fun r2 => cap (mX7_isSide x2 M) (fun r5 => ite2 (r2 = 0) (mX7_fold_b45 k0 x1 x2 r2 r5 M) (ite2 (r5 = 0) (mX7_fold_b45 k0 x1 x2 r2 r5 M) (chk (okb (52 : Int32) 86) (cal (mX7_reasonOf k0 x1 x2 (rd M (k0 + 1) ((52 : Int32)).toNatClampNeg) M) (fun M19 r18 => ite2 (r18 = 0) (mX7_fold_b46 k0 x1 x2 r2 r5 (1 : Int32) M19) (mX7_fold_b45 k0 x1 x2 r2 r5 M19)))))))
set_option maxHeartbeats 4000000 in
set_option maxRecDepth 100000 in
theorem tX7_fold (l : Launch) {G : GT} {kd : Nat → Nat × Nat} {ad : Nat → Nat} {k0 : Nat} (hk0 : kModel kd k0) {x1 : Int32} {x2 : Int32} {M : Mem} {MO : Mem} {vo : Int32} (hf : mX7_fold k0 x1 x2 M = some (MO, vo)) (n : Nat) : Met l yX7_fold (Cond.code yX7_fold cX7_fold 5 (some .int) :: WA) (rmO 7 0 0) (Pg G kd ad n [.ref (ad k0), .int x1, .int x2] M) (Qg G kd ad n MO (some (.int vo))) 0 0 (AS kd ad n) := by
  refine g_body (own := RX7) (by decide) rfl ?_ (Nat.le_of_ble_eq_true rfl)
  intro p e s m args below meth c C _ H locs ls hI hl
  obtain ⟨hx, hb, hml, hr, hown, hts, hlk, hK, hap, hsx⟩ := id C
  have hl : lv_has ls 5 [(0, .ref (ad k0)), (1, .int x1), (2, .int x2)] := hl
  unfold mX7_fold at hf
  refine lv_aload_n hx hb (dc tbX7_fold_k 0 rfl) rfl (lv_at hl 0 rfl) ?_
  refine lv_iload_n hx hb (dc tbX7_fold_k 1 rfl) rfl (lv_at hl 1 rfl) ?_
  obtain ⟨r2, q1, hf⟩ := cap_s hf
  refine g_callVi hx hb hml hown hts hK hap hsx hI (tX7_isBend l hk0 q1 H.size) cv_X7_isBend q_t8_64 rfl rfl ⟨Nat.le_of_ble_eq_true rfl, Nat.le_of_ble_eq_true rfl⟩ hk0.1 (by simp) rfl rfl rfl hl.1 rfl (Nat.le_of_ble_eq_true rfl) (dc tbX7_fold_k 2 rfl) ⟨Nat.le_of_ble_eq_true rfl, Nat.le_of_ble_eq_true rfl⟩ (fun H locs hI => ?_)
  refine lv_istore_n (lv' := [(3, .int r2), (0, .ref (ad k0)), (1, .int x1), (2, .int x2)]) hx hb (dc tbX7_fold_k 3 rfl) rfl hl (by decide) rfl (fun ls hl => ?_)
  refine lv_iload_n hx hb (dc tbX7_fold_k 4 rfl) rfl (lv_at hl 3 rfl) ?_
  obtain ⟨r5, q4, hf⟩ := cap_s hf
  refine g_callSi hx hb hml hown hts hK hap hsx hI (tX7_isSide l  q4 H.size) cs_X7_isSide q_t8_219 rfl rfl ⟨Nat.le_of_ble_eq_true rfl, Nat.le_of_ble_eq_true rfl⟩ rfl hl.1 rfl (Nat.le_of_ble_eq_true rfl) (dc tbX7_fold_k 5 rfl) ⟨Nat.le_of_ble_eq_true rfl, Nat.le_of_ble_eq_true rfl⟩ (fun H locs hI => ?_)
  refine lv_istore (lv' := [(4, .int r5), (3, .int r2), (0, .ref (ad k0)), (1, .int x1), (2, .int x2)]) hx hb (dc tbX7_fold_k 6 rfl) hl (by decide) rfl (fun ls hl => ?_)
  refine lv_aload_n hx hb (dc tbX7_fold_k 7 rfl) rfl (lv_at hl 2 rfl) ?_
  refine lv_iload_n hx hb (dc tbX7_fold_k 8 rfl) rfl (lv_at hl 1 rfl) ?_
  refine lv_iload hx hb (dc tbX7_fold_k 9 rfl) (lv_at hl 0 rfl) ?_
  refine lv_iload_n hx hb (dc tbX7_fold_k 10 rfl) rfl (lv_at hl 1 rfl) ?_
  refine lv_if_eq (tgt := 45) hx hb (dc tbX7_fold_k 11 rfl) rfl (fun c7 => ?_) (fun c7 => ?_)
  · have hf := ite_t c7 hf
    exact tX7_fold_b45 C hk0 x1 x2 r2 r5 M hf _ _ _ hI (lv_sub hl [2, 3, 4] rfl)
  · have hf := ite_f c7 hf
    refine lv_iload hx hb (dc tbX7_fold_k 12 rfl) (lv_at hl 0 rfl) ?_
    refine lv_if_eq (tgt := 45) hx hb (dc tbX7_fold_k 13 rfl) rfl (fun c15 => ?_) (fun c15 => ?_)
    · have hf := ite_t c15 hf
      exact tX7_fold_b45 C hk0 x1 x2 r2 r5 M hf _ _ _ hI (lv_sub hl [2, 3, 4] rfl)
    · have hf := ite_f c15 hf
      refine lv_aload_n hx hb (dc tbX7_fold_k 14 rfl) rfl (lv_at hl 2 rfl) ?_
      refine lv_iload_n hx hb (dc tbX7_fold_k 15 rfl) rfl (lv_at hl 3 rfl) ?_
      refine lv_iload_n hx hb (dc tbX7_fold_k 16 rfl) rfl (lv_at hl 4 rfl) ?_
      refine lv_aload_n hx hb (dc tbX7_fold_k 17 rfl) rfl (lv_at hl 2 rfl) ?_
      refine gg7_0 hx hb hts hown hK hI hk0.1 q_t7_76 (dc tbX7_fold_k 18 rfl) ?_
      refine lv_bipush (v := 52) hx hb (dc tbX7_fold_k 19 rfl) bp_52 ?_
      obtain ⟨h16, hf⟩ := chk_s hf
      refine g_iald hx hb hK hI hk0.2.1 (okb_in h16) (dc tbX7_fold_k 20 rfl) ?_
      obtain ⟨M19, r18, q17, hf⟩ := cal_s hf
      refine g_callVi hx hb hml hown hts hK hap hsx hI (tX7_reasonOf l hk0 q17 H.size) cv_X7_reasonOf q_t8_222 rfl rfl ⟨Nat.le_of_ble_eq_true rfl, Nat.le_of_ble_eq_true rfl⟩ hk0.1 (by simp) rfl rfl rfl hl.1 rfl (Nat.le_of_ble_eq_true rfl) (dc tbX7_fold_k 21 rfl) ⟨Nat.le_of_ble_eq_true rfl, Nat.le_of_ble_eq_true rfl⟩ (fun H locs hI => ?_)
      refine lv_if_ne (tgt := 45) hx hb (dc tbX7_fold_k 22 rfl) rfl (fun c20 => ?_) (fun c20 => ?_)
      · have hf := ite_f c20 hf
        exact tX7_fold_b45 C hk0 x1 x2 r2 r5 M19 hf _ _ _ hI (lv_sub hl [2, 3, 4] rfl)
      · have hf := ite_t c20 hf
        refine lv_iconst (v := 1) hx hb (dc tbX7_fold_k 23 rfl) ic_1 ?_
        refine lv_goto (tgt := 46) hx hb (dc tbX7_fold_k 24 rfl) rfl ?_
        exact tX7_fold_b46 C hk0 x1 x2 r2 r5 (1 : Int32) M19 hf _ _ _ hI (lv_sub hl [2, 3, 4] rfl)
theorem cv_X7_fold : cvF RX7 yX7_fold cX7_fold 5 (some .int) 2 := ⟨q_t9_180, q_t9_181, q_t1_11, q_t9_182, by decide +kernel⟩
def mX7_foldNext_b24 (k0 : Nat) (y1 : Int32) (M : Mem) : Option (Mem × Int32) := cal (mX7_good k0 y1 M) (fun M10 r9 => ite2 (r9 = 0) (some (M10, (0 : Int32))) (chk (okb (52 : Int32) 86) (cap (mX7_lastNow k0 M10) (fun r14 => cap (mX7_bestStep k0 (rd M10 (k0 + 1) ((52 : Int32)).toNatClampNeg) r14 M10) (fun r17 => cal (mX7_foldNow k0 (r17 / (2 : Int32)) (r17 - r17 / (2 : Int32) * (2 : Int32)) M10) (fun M21 r20 => some (M21, r17)))))))
set_option maxHeartbeats 4000000 in
set_option maxRecDepth 100000 in
theorem tX7_foldNext_b24 {p : Program} {l : Launch} {e : Env} {s : State} {m : MethodId} {args : Array Value} {below : List Frame} {meth : Method} {c : Code} {G : GT} {kd : Nat → Nat × Nat} {ad : Nat → Nat} (C : Cx p s m args meth c cX7_foldNext 3 (some .int) RX7 G kd ad) {k0 : Nat} (hk0 : kModel kd k0) {MO : Mem} {vo : Int32}   : ∀ (y1 : Int32) (M : Mem), mX7_foldNext_b24 k0 y1 M = some (MO, vo) → At p l e (rmO 8 0 0) s m args below meth c 0 0 (MQ below (Qg G kd ad s.heap.size MO (some (.int vo))) args s 0 0 (AS kd ad s.heap.size)) G kd ad 3 24 [(0, .ref (ad k0))] [.int y1, .ref (ad k0)] M := by
  intro y1 M hf H locs ls hI hl
  obtain ⟨hx, hb, hml, hr, hown, hts, hlk, hK, hap, hsx⟩ := id C
  unfold mX7_foldNext_b24 at hf
  obtain ⟨M10, r9, q8, hf⟩ := cal_s hf
  refine g_callVi hx hb hml hown hts hK hap hsx hI (tX7_good l hk0 q8 H.size) cv_X7_good q_t8_56 rfl rfl ⟨Nat.le_of_ble_eq_true rfl, Nat.le_of_ble_eq_true rfl⟩ hk0.1 (by simp) rfl rfl rfl hl.1 rfl (Nat.le_of_ble_eq_true rfl) (dc tbX7_foldNext_k 12 rfl) ⟨Nat.le_of_ble_eq_true rfl, Nat.le_of_ble_eq_true rfl⟩ (fun H locs hI => ?_)
  refine lv_if_ne (tgt := 32) hx hb (dc tbX7_foldNext_k 13 rfl) rfl (fun c11 => ?_) (fun c11 => ?_)
  · have hf := ite_f c11 hf
    refine lv_aload_n hx hb (dc tbX7_foldNext_k 16 rfl) rfl (lv_at hl 0 rfl) ?_
    refine lv_aload_n hx hb (dc tbX7_foldNext_k 17 rfl) rfl (lv_at hl 0 rfl) ?_
    refine gg7_0 hx hb hts hown hK hI hk0.1 q_t7_76 (dc tbX7_foldNext_k 18 rfl) ?_
    refine lv_bipush (v := 52) hx hb (dc tbX7_foldNext_k 19 rfl) bp_52 ?_
    obtain ⟨h12, hf⟩ := chk_s hf
    refine g_iald hx hb hK hI hk0.2.1 (okb_in h12) (dc tbX7_foldNext_k 20 rfl) ?_
    refine lv_aload_n hx hb (dc tbX7_foldNext_k 21 rfl) rfl (lv_at hl 0 rfl) ?_
    obtain ⟨r14, q13, hf⟩ := cap_s hf
    refine g_callVi hx hb hml hown hts hK hap hsx hI (tX7_lastNow l hk0 q13 H.size) cv_X7_lastNow q_t9_131 rfl rfl ⟨Nat.le_of_ble_eq_true rfl, Nat.le_of_ble_eq_true rfl⟩ hk0.1 (by simp) rfl rfl rfl hl.1 rfl (Nat.le_of_ble_eq_true rfl) (dc tbX7_foldNext_k 22 rfl) ⟨Nat.le_of_ble_eq_true rfl, Nat.le_of_ble_eq_true rfl⟩ (fun H locs hI => ?_)
    obtain ⟨r17, q16, hf⟩ := cap_s hf
    refine g_callVi hx hb hml hown hts hK hap hsx hI (tX7_bestStep l hk0 q16 H.size) cv_X7_bestStep q_t9_147 rfl rfl ⟨Nat.le_of_ble_eq_true rfl, Nat.le_of_ble_eq_true rfl⟩ hk0.1 (by simp) rfl rfl rfl hl.1 rfl (Nat.le_of_ble_eq_true rfl) (dc tbX7_foldNext_k 23 rfl) ⟨Nat.le_of_ble_eq_true rfl, Nat.le_of_ble_eq_true rfl⟩ (fun H locs hI => ?_)
    refine lv_istore_n (lv' := [(1, .int r17), (0, .ref (ad k0))]) hx hb (dc tbX7_foldNext_k 24 rfl) rfl hl (by decide) rfl (fun ls hl => ?_)
    refine lv_aload_n hx hb (dc tbX7_foldNext_k 25 rfl) rfl (lv_at hl 1 rfl) ?_
    refine lv_iload_n hx hb (dc tbX7_foldNext_k 26 rfl) rfl (lv_at hl 0 rfl) ?_
    refine lv_iconst (v := 2) hx hb (dc tbX7_foldNext_k 27 rfl) ic_2 ?_
    refine lv_idiv hx hb (dc tbX7_foldNext_k 28 rfl) (by decide) ?_
    refine lv_iload_n hx hb (dc tbX7_foldNext_k 29 rfl) rfl (lv_at hl 0 rfl) ?_
    refine lv_iconst (v := 2) hx hb (dc tbX7_foldNext_k 30 rfl) ic_2 ?_
    refine lv_irem hx hb (dc tbX7_foldNext_k 31 rfl) (by decide) ?_
    obtain ⟨M21, r20, q19, hf⟩ := cal_s hf
    refine g_callVi hx hb hml hown hts hK hap hsx hI (tX7_foldNow l hk0 q19 H.size) cv_X7_foldNow q_t9_187 rfl rfl ⟨Nat.le_of_ble_eq_true rfl, Nat.le_of_ble_eq_true rfl⟩ hk0.1 (by simp) rfl rfl rfl hl.1 rfl (Nat.le_of_ble_eq_true rfl) (dc tbX7_foldNext_k 32 rfl) ⟨Nat.le_of_ble_eq_true rfl, Nat.le_of_ble_eq_true rfl⟩ (fun H locs hI => ?_)
    refine lv_istore_n (lv' := [(2, .int r20), (1, .int r17), (0, .ref (ad k0))]) hx hb (dc tbX7_foldNext_k 33 rfl) rfl hl (by decide) rfl (fun ls hl => ?_)
    refine lv_iload_n hx hb (dc tbX7_foldNext_k 34 rfl) rfl (lv_at hl 1 rfl) ?_
    cases hf
    exact g_iret hx hb hr hlk hI (dc tbX7_foldNext_k 35 rfl)
  · have hf := ite_t c11 hf
    refine lv_iconst (v := 0) hx hb (dc tbX7_foldNext_k 14 rfl) ic_0 ?_
    cases hf
    exact g_iret hx hb hr hlk hI (dc tbX7_foldNext_k 15 rfl)
def mX7_foldNext_b23 (k0 : Nat) (M : Mem) : Option (Mem × Int32) := mX7_foldNext_b24 k0 (0 : Int32) M
set_option maxHeartbeats 4000000 in
set_option maxRecDepth 100000 in
theorem tX7_foldNext_b23 {p : Program} {l : Launch} {e : Env} {s : State} {m : MethodId} {args : Array Value} {below : List Frame} {meth : Method} {c : Code} {G : GT} {kd : Nat → Nat × Nat} {ad : Nat → Nat} (C : Cx p s m args meth c cX7_foldNext 3 (some .int) RX7 G kd ad) {k0 : Nat} (hk0 : kModel kd k0) {MO : Mem} {vo : Int32}   : ∀  (M : Mem), mX7_foldNext_b23 k0 M = some (MO, vo) → At p l e (rmO 8 0 0) s m args below meth c 0 0 (MQ below (Qg G kd ad s.heap.size MO (some (.int vo))) args s 0 0 (AS kd ad s.heap.size)) G kd ad 3 23 [(0, .ref (ad k0))] [.ref (ad k0)] M := by
  intro M hf H locs ls hI hl
  obtain ⟨hx, hb, hml, hr, hown, hts, hlk, hK, hap, hsx⟩ := id C
  unfold mX7_foldNext_b23 at hf
  refine lv_iconst (v := 0) hx hb (dc tbX7_foldNext_k 11 rfl) ic_0 ?_
  exact tX7_foldNext_b24 C hk0 (0 : Int32) M hf _ _ _ hI (lv_sub hl [0] rfl)
def mX7_foldNext (k0 : Nat) (M : Mem) : Option (Mem × Int32) := cal (mX7_layCosts k0 M) (fun M3 _ => cap (mX7_isOrder k0 M3) (fun r5 => ite2 (r5 = 0) (mX7_foldNext_b23 k0 M3) (cap (mX7_unmade k0 M3) (fun r23 => ite2 (r23 ≤ 0) (mX7_foldNext_b23 k0 M3) (mX7_foldNext_b24 k0 (1 : Int32) M3)))))
set_option maxHeartbeats 4000000 in
set_option maxRecDepth 100000 in
theorem tX7_foldNext (l : Launch) {G : GT} {kd : Nat → Nat × Nat} {ad : Nat → Nat} {k0 : Nat} (hk0 : kModel kd k0) {M : Mem} {MO : Mem} {vo : Int32} (hf : mX7_foldNext k0 M = some (MO, vo)) (n : Nat) : Met l yX7_foldNext (Cond.code yX7_foldNext cX7_foldNext 3 (some .int) :: WA) (rmO 8 0 0) (Pg G kd ad n [.ref (ad k0)] M) (Qg G kd ad n MO (some (.int vo))) 0 0 (AS kd ad n) := by
  refine g_body (own := RX7) (by decide) rfl ?_ (Nat.le_of_ble_eq_true rfl)
  intro p e s m args below meth c C _ H locs ls hI hl
  obtain ⟨hx, hb, hml, hr, hown, hts, hlk, hK, hap, hsx⟩ := id C
  have hl : lv_has ls 3 [(0, .ref (ad k0))] := hl
  unfold mX7_foldNext at hf
  refine lv_aload_n hx hb (dc tbX7_foldNext_k 0 rfl) rfl (lv_at hl 0 rfl) ?_
  obtain ⟨M3, r2, q1, hf⟩ := cal_s hf
  refine g_callVv hx hb hml hown hts hK hap hsx hI (tX7_layCosts l hk0 q1 H.size) cv_X7_layCosts q_t9_113 rfl rfl ⟨Nat.le_of_ble_eq_true rfl, Nat.le_of_ble_eq_true rfl⟩ hk0.1 (by simp) rfl rfl rfl hl.1 rfl (Nat.le_of_ble_eq_true rfl) (dc tbX7_foldNext_k 1 rfl) ⟨Nat.le_of_ble_eq_true rfl, Nat.le_of_ble_eq_true rfl⟩ (fun H locs hI => ?_)
  refine lv_aload_n hx hb (dc tbX7_foldNext_k 2 rfl) rfl (lv_at hl 0 rfl) ?_
  refine lv_aload_n hx hb (dc tbX7_foldNext_k 3 rfl) rfl (lv_at hl 0 rfl) ?_
  obtain ⟨r5, q4, hf⟩ := cap_s hf
  refine g_callVi hx hb hml hown hts hK hap hsx hI (tX7_isOrder l hk0 q4 H.size) cv_X7_isOrder q_t9_127 rfl rfl ⟨Nat.le_of_ble_eq_true rfl, Nat.le_of_ble_eq_true rfl⟩ hk0.1 (by simp) rfl rfl rfl hl.1 rfl (Nat.le_of_ble_eq_true rfl) (dc tbX7_foldNext_k 4 rfl) ⟨Nat.le_of_ble_eq_true rfl, Nat.le_of_ble_eq_true rfl⟩ (fun H locs hI => ?_)
  refine lv_if_eq (tgt := 23) hx hb (dc tbX7_foldNext_k 5 rfl) rfl (fun c7 => ?_) (fun c7 => ?_)
  · have hf := ite_t c7 hf
    exact tX7_foldNext_b23 C hk0 M3 hf _ _ _ hI (lv_sub hl [0] rfl)
  · have hf := ite_f c7 hf
    refine lv_aload_n hx hb (dc tbX7_foldNext_k 6 rfl) rfl (lv_at hl 0 rfl) ?_
    obtain ⟨r23, q22, hf⟩ := cap_s hf
    refine g_callVi hx hb hml hown hts hK hap hsx hI (tX7_unmade l hk0 q22 H.size) cv_X7_unmade q_t9_139 rfl rfl ⟨Nat.le_of_ble_eq_true rfl, Nat.le_of_ble_eq_true rfl⟩ hk0.1 (by simp) rfl rfl rfl hl.1 rfl (Nat.le_of_ble_eq_true rfl) (dc tbX7_foldNext_k 7 rfl) ⟨Nat.le_of_ble_eq_true rfl, Nat.le_of_ble_eq_true rfl⟩ (fun H locs hI => ?_)
    refine lv_if_le (tgt := 23) hx hb (dc tbX7_foldNext_k 8 rfl) rfl (fun c25 => ?_) (fun c25 => ?_)
    · have hf := ite_t c25 hf
      exact tX7_foldNext_b23 C hk0 M3 hf _ _ _ hI (lv_sub hl [0] rfl)
    · have hf := ite_f c25 hf
      refine lv_iconst (v := 1) hx hb (dc tbX7_foldNext_k 9 rfl) ic_1 ?_
      refine lv_goto (tgt := 24) hx hb (dc tbX7_foldNext_k 10 rfl) rfl ?_
      exact tX7_foldNext_b24 C hk0 (1 : Int32) M3 hf _ _ _ hI (lv_sub hl [0] rfl)
theorem cv_X7_foldNext : cvF RX7 yX7_foldNext cX7_foldNext 3 (some .int) 0 := ⟨q_t9_196, q_t9_197, q_t1_11, q_t9_198, by decide +kernel⟩
def mX7_unfold_b36 (k0 : Nat) (ih36 : Int32 → Int32 → Mem → Option (Mem × Int32)) (x1 : Int32) (x2 : Int32) (M : Mem) : Option (Mem × Int32) := ite2 ((86 : Int32) ≤ x2) (some (M, x1)) (chk (okb x2 86) (bnd (wr M (k0 + 1) (x2).toNatClampNeg (0 : Int32)) (fun M17 => bnd (x2 + (1 : Int32)) (fun x2_49 => ih36 x1 x2_49 M17))))
set_option maxHeartbeats 4000000 in
set_option maxRecDepth 100000 in
theorem tX7_unfold_b36 {p : Program} {l : Launch} {e : Env} {s : State} {m : MethodId} {args : Array Value} {below : List Frame} {meth : Method} {c : Code} {G : GT} {kd : Nat → Nat × Nat} {ad : Nat → Nat} (C : Cx p s m args meth c cX7_unfold 3 (some .int) RX7 G kd ad) {k0 : Nat} (hk0 : kModel kd k0) {MO : Mem} {vo : Int32} {ih36 : Int32 → Int32 → Mem → Option (Mem × Int32)} (hih36 : ∀ (x1 : Int32) (x2 : Int32) (M : Mem), ih36 x1 x2 M = some (MO, vo) → At p l e (rmO 1 0 0) s m args below meth c 0 0 (MQ below (Qg G kd ad s.heap.size MO (some (.int vo))) args s 0 0 (AS kd ad s.heap.size)) G kd ad 3 36 [(0, .ref (ad k0)), (1, .int x1), (2, .int x2)] [] M) : ∀ (x1 : Int32) (x2 : Int32) (M : Mem), mX7_unfold_b36 k0 ih36 x1 x2 M = some (MO, vo) → At p l e (rmO 1 0 0) s m args below meth c 0 0 (MQ below (Qg G kd ad s.heap.size MO (some (.int vo))) args s 0 0 (AS kd ad s.heap.size)) G kd ad 3 36 [(0, .ref (ad k0)), (1, .int x1), (2, .int x2)] [] M := by
  intro x1 x2 M hf H locs ls hI hl
  obtain ⟨hx, hb, hml, hr, hown, hts, hlk, hK, hap, hsx⟩ := id C
  unfold mX7_unfold_b36 at hf
  refine lv_iload_n hx hb (dc tbX7_unfold_k 22 rfl) rfl (lv_at hl 2 rfl) ?_
  refine lv_bipush (v := 86) hx hb (dc tbX7_unfold_k 23 rfl) bp_86 ?_
  refine lv_icmp_ge (tgt := 55) hx hb (dc tbX7_unfold_k 24 rfl) rfl (fun c14 => ?_) (fun c14 => ?_)
  · have hf := ite_t c14 hf
    refine lv_iload_n hx hb (dc tbX7_unfold_k 32 rfl) rfl (lv_at hl 1 rfl) ?_
    cases hf
    exact g_iret hx hb hr hlk hI (dc tbX7_unfold_k 33 rfl)
  · have hf := ite_f c14 hf
    refine lv_aload_n hx hb (dc tbX7_unfold_k 25 rfl) rfl (lv_at hl 0 rfl) ?_
    refine gg7_0 hx hb hts hown hK hI hk0.1 q_t7_76 (dc tbX7_unfold_k 26 rfl) ?_
    refine lv_iload_n hx hb (dc tbX7_unfold_k 27 rfl) rfl (lv_at hl 2 rfl) ?_
    refine lv_iconst (v := 0) hx hb (dc tbX7_unfold_k 28 rfl) ic_0 ?_
    obtain ⟨h15, hf⟩ := chk_s hf
    obtain ⟨M17, e16, hf⟩ := bnd_s hf
    refine g_iast hx hb hK hap hI hk0.2.1 (okb_in h15) (dc tbX7_unfold_k 29 rfl) e16 (fun H locs hI => ?_)
    obtain ⟨x2_49, e18, hf⟩ := bnd_s hf
    refine lv_iinc (v := x2_49) (lv' := [(2, .int x2_49), (0, .ref (ad k0)), (1, .int x1)]) hx hb (dc tbX7_unfold_k 30 rfl) hl (k := 2) rfl (ii_e e18 ic_1) (by decide) rfl (fun ls hl => ?_)
    refine lv_goto (tgt := 36) hx hb (dc tbX7_unfold_k 31 rfl) rfl ?_
    exact hih36 x1 x2_49 M17 hf _ _ _ hI (lv_sub hl [1, 2, 0] rfl)
def mX7_unfold_l36 (k0 : Nat) : Nat → Int32 → Int32 → Mem → Option (Mem × Int32)
  | 0 => fun _ _ _ => none
  | n + 1 => mX7_unfold_b36 k0 (mX7_unfold_l36 k0 n)
theorem tX7_unfold_l36 {p : Program} {l : Launch} {e : Env} {s : State} {m : MethodId} {args : Array Value} {below : List Frame} {meth : Method} {c : Code} {G : GT} {kd : Nat → Nat × Nat} {ad : Nat → Nat} (C : Cx p s m args meth c cX7_unfold 3 (some .int) RX7 G kd ad) {k0 : Nat} (hk0 : kModel kd k0) {MO : Mem} {vo : Int32}   : ∀ (fuel : Nat) (x1 : Int32) (x2 : Int32) (M : Mem), mX7_unfold_l36 k0 fuel x1 x2 M = some (MO, vo) → At p l e (rmO 1 0 0) s m args below meth c 0 0 (MQ below (Qg G kd ad s.heap.size MO (some (.int vo))) args s 0 0 (AS kd ad s.heap.size)) G kd ad 3 36 [(0, .ref (ad k0)), (1, .int x1), (2, .int x2)] [] M := by
  intro fuel
  induction fuel with
  | zero => intro x1 x2 M hf; cases hf
  | succ n IH => exact tX7_unfold_b36 C hk0 IH
def mX7_unfold (k0 : Nat) (M : Mem) : Option (Mem × Int32) := bnd (wr M k0 5 (0 : Int32)) (fun M1 => cal (mX7_remember k0 M1) (fun M5 _ => chk (okb (53 : Int32) 86) (bnd ((rd M5 (k0 + 1) ((53 : Int32)).toNatClampNeg)) (fun x1_16 => chk (okb (53 : Int32) 86) (bnd (wr M5 (k0 + 1) ((53 : Int32)).toNatClampNeg (0 : Int32)) (fun M10 => chk (okb (52 : Int32) 86) (bnd (wr M10 (k0 + 1) ((52 : Int32)).toNatClampNeg (0 : Int32)) (fun M13 => mX7_unfold_l36 k0 5000 x1_16 (54 : Int32) M13))))))))
set_option maxHeartbeats 4000000 in
set_option maxRecDepth 100000 in
theorem tX7_unfold (l : Launch) {G : GT} {kd : Nat → Nat × Nat} {ad : Nat → Nat} {k0 : Nat} (hk0 : kModel kd k0) {M : Mem} {MO : Mem} {vo : Int32} (hf : mX7_unfold k0 M = some (MO, vo)) (n : Nat) : Met l yX7_unfold (Cond.code yX7_unfold cX7_unfold 3 (some .int) :: WA) (rmO 1 0 0) (Pg G kd ad n [.ref (ad k0)] M) (Qg G kd ad n MO (some (.int vo))) 0 0 (AS kd ad n) := by
  refine g_body (own := RX7) (by decide) rfl ?_ (Nat.le_of_ble_eq_true rfl)
  intro p e s m args below meth c C _ H locs ls hI hl
  obtain ⟨hx, hb, hml, hr, hown, hts, hlk, hK, hap, hsx⟩ := id C
  have hl : lv_has ls 3 [(0, .ref (ad k0))] := hl
  unfold mX7_unfold at hf
  refine lv_aload_n hx hb (dc tbX7_unfold_k 0 rfl) rfl (lv_at hl 0 rfl) ?_
  refine lv_iconst (v := 0) hx hb (dc tbX7_unfold_k 1 rfl) ic_0 ?_
  obtain ⟨M1, e2, hf⟩ := bnd_s hf
  refine gp7_5 hx hb hts hown hK hap hI hk0.1 q_t7_81 (dc tbX7_unfold_k 2 rfl) e2 (fun H locs hI => ?_)
  refine lv_aload_n hx hb (dc tbX7_unfold_k 3 rfl) rfl (lv_at hl 0 rfl) ?_
  obtain ⟨M5, r4, q3, hf⟩ := cal_s hf
  refine g_callVv hx hb hml hown hts hK hap hsx hI (tX7_remember l hk0 q3 H.size) cv_X7_remember q_t9_191 rfl rfl ⟨Nat.le_of_ble_eq_true rfl, Nat.le_of_ble_eq_true rfl⟩ hk0.1 (by simp) rfl rfl rfl hl.1 rfl (Nat.le_of_ble_eq_true rfl) (dc tbX7_unfold_k 4 rfl) ⟨Nat.le_of_ble_eq_true rfl, Nat.le_of_ble_eq_true rfl⟩ (fun H locs hI => ?_)
  refine lv_aload_n hx hb (dc tbX7_unfold_k 5 rfl) rfl (lv_at hl 0 rfl) ?_
  refine gg7_0 hx hb hts hown hK hI hk0.1 q_t7_76 (dc tbX7_unfold_k 6 rfl) ?_
  refine lv_bipush (v := 53) hx hb (dc tbX7_unfold_k 7 rfl) bp_53 ?_
  obtain ⟨h6, hf⟩ := chk_s hf
  refine g_iald hx hb hK hI hk0.2.1 (okb_in h6) (dc tbX7_unfold_k 8 rfl) ?_
  obtain ⟨x1_16, e7, hf⟩ := bnd_s hf
  refine lv_ei e7 ?_
  refine lv_istore_n (lv' := [(1, .int x1_16), (0, .ref (ad k0))]) hx hb (dc tbX7_unfold_k 9 rfl) rfl hl (by decide) rfl (fun ls hl => ?_)
  refine lv_aload_n hx hb (dc tbX7_unfold_k 10 rfl) rfl (lv_at hl 1 rfl) ?_
  refine gg7_0 hx hb hts hown hK hI hk0.1 q_t7_76 (dc tbX7_unfold_k 11 rfl) ?_
  refine lv_bipush (v := 53) hx hb (dc tbX7_unfold_k 12 rfl) bp_53 ?_
  refine lv_iconst (v := 0) hx hb (dc tbX7_unfold_k 13 rfl) ic_0 ?_
  obtain ⟨h8, hf⟩ := chk_s hf
  obtain ⟨M10, e9, hf⟩ := bnd_s hf
  refine g_iast hx hb hK hap hI hk0.2.1 (okb_in h8) (dc tbX7_unfold_k 14 rfl) e9 (fun H locs hI => ?_)
  refine lv_aload_n hx hb (dc tbX7_unfold_k 15 rfl) rfl (lv_at hl 1 rfl) ?_
  refine gg7_0 hx hb hts hown hK hI hk0.1 q_t7_76 (dc tbX7_unfold_k 16 rfl) ?_
  refine lv_bipush (v := 52) hx hb (dc tbX7_unfold_k 17 rfl) bp_52 ?_
  refine lv_iconst (v := 0) hx hb (dc tbX7_unfold_k 18 rfl) ic_0 ?_
  obtain ⟨h11, hf⟩ := chk_s hf
  obtain ⟨M13, e12, hf⟩ := bnd_s hf
  refine g_iast hx hb hK hap hI hk0.2.1 (okb_in h11) (dc tbX7_unfold_k 19 rfl) e12 (fun H locs hI => ?_)
  refine lv_bipush (v := 54) hx hb (dc tbX7_unfold_k 20 rfl) bp_54 ?_
  refine lv_istore_n (lv' := [(2, .int (54 : Int32)), (1, .int x1_16), (0, .ref (ad k0))]) hx hb (dc tbX7_unfold_k 21 rfl) rfl hl (by decide) rfl (fun ls hl => ?_)
  exact tX7_unfold_l36 C hk0 5000 x1_16 (54 : Int32) M13 hf _ _ _ hI (lv_sub hl [2, 1, 0] rfl)
theorem cv_X7_unfold : cvF RX7 yX7_unfold cX7_unfold 3 (some .int) 0 := ⟨q_t9_200, q_t9_201, q_t1_11, q_t9_202, by decide +kernel⟩
def mX7_set (k0 : Nat) (x1 : Int32) (x2 : Int32) (M : Mem) : Option (Mem × Int32) := cal (mX7_remember k0 M) (fun M3 _ => chk (okb x1 86) (bnd ((rd M3 (k0 + 1) (x1).toNatClampNeg)) (fun x3_10 => chk (okb x1 86) (bnd (wr M3 (k0 + 1) (x1).toNatClampNeg x2) (fun M8 => some (M8, x3_10))))))
set_option maxHeartbeats 4000000 in
set_option maxRecDepth 100000 in
theorem tX7_set (l : Launch) {G : GT} {kd : Nat → Nat × Nat} {ad : Nat → Nat} {k0 : Nat} (hk0 : kModel kd k0) {x1 : Int32} {x2 : Int32} {M : Mem} {MO : Mem} {vo : Int32} (hf : mX7_set k0 x1 x2 M = some (MO, vo)) (n : Nat) : Met l yX7_set (Cond.code yX7_set cX7_set 4 (some .int) :: WA) (rmO 1 0 0) (Pg G kd ad n [.ref (ad k0), .int x1, .int x2] M) (Qg G kd ad n MO (some (.int vo))) 0 0 (AS kd ad n) := by
  refine g_body (own := RX7) (by decide) rfl ?_ (Nat.le_of_ble_eq_true rfl)
  intro p e s m args below meth c C _ H locs ls hI hl
  obtain ⟨hx, hb, hml, hr, hown, hts, hlk, hK, hap, hsx⟩ := id C
  have hl : lv_has ls 4 [(0, .ref (ad k0)), (1, .int x1), (2, .int x2)] := hl
  unfold mX7_set at hf
  refine lv_aload_n hx hb (dc tbX7_set_k 0 rfl) rfl (lv_at hl 0 rfl) ?_
  obtain ⟨M3, r2, q1, hf⟩ := cal_s hf
  refine g_callVv hx hb hml hown hts hK hap hsx hI (tX7_remember l hk0 q1 H.size) cv_X7_remember q_t9_191 rfl rfl ⟨Nat.le_of_ble_eq_true rfl, Nat.le_of_ble_eq_true rfl⟩ hk0.1 (by simp) rfl rfl rfl hl.1 rfl (Nat.le_of_ble_eq_true rfl) (dc tbX7_set_k 1 rfl) ⟨Nat.le_of_ble_eq_true rfl, Nat.le_of_ble_eq_true rfl⟩ (fun H locs hI => ?_)
  refine lv_aload_n hx hb (dc tbX7_set_k 2 rfl) rfl (lv_at hl 0 rfl) ?_
  refine gg7_0 hx hb hts hown hK hI hk0.1 q_t7_76 (dc tbX7_set_k 3 rfl) ?_
  refine lv_iload_n hx hb (dc tbX7_set_k 4 rfl) rfl (lv_at hl 1 rfl) ?_
  obtain ⟨h4, hf⟩ := chk_s hf
  refine g_iald hx hb hK hI hk0.2.1 (okb_in h4) (dc tbX7_set_k 5 rfl) ?_
  obtain ⟨x3_10, e5, hf⟩ := bnd_s hf
  refine lv_ei e5 ?_
  refine lv_istore_n (lv' := [(3, .int x3_10), (0, .ref (ad k0)), (1, .int x1), (2, .int x2)]) hx hb (dc tbX7_set_k 6 rfl) rfl hl (by decide) rfl (fun ls hl => ?_)
  refine lv_aload_n hx hb (dc tbX7_set_k 7 rfl) rfl (lv_at hl 1 rfl) ?_
  refine gg7_0 hx hb hts hown hK hI hk0.1 q_t7_76 (dc tbX7_set_k 8 rfl) ?_
  refine lv_iload_n hx hb (dc tbX7_set_k 9 rfl) rfl (lv_at hl 2 rfl) ?_
  refine lv_iload_n hx hb (dc tbX7_set_k 10 rfl) rfl (lv_at hl 3 rfl) ?_
  obtain ⟨h6, hf⟩ := chk_s hf
  obtain ⟨M8, e7, hf⟩ := bnd_s hf
  refine g_iast hx hb hK hap hI hk0.2.1 (okb_in h6) (dc tbX7_set_k 11 rfl) e7 (fun H locs hI => ?_)
  refine lv_iload_n hx hb (dc tbX7_set_k 12 rfl) rfl (lv_at hl 0 rfl) ?_
  cases hf
  exact g_iret hx hb hr hlk hI (dc tbX7_set_k 13 rfl)
theorem cv_X7_set : cvF RX7 yX7_set cX7_set 4 (some .int) 2 := ⟨q_t9_210, q_s7_5, q_t1_11, q_t9_211, by decide +kernel⟩
def mX7_setLeg_b30 (k0 : Nat) (x1 : Int32) (x2 : Int32) (y1 : Int32) (y2 : Int32) (y3 : Int32) (M : Mem) : Option (Mem × Int32) := cal (mX7_good__ k0 y1 y2 y3 M) (fun M11 r10 => ite2 (r10 = 0) (some (M11, (0 : Int32))) (cal (mX7_set k0 ((2 : Int32) + x1) x2 M11) (fun M15 r14 => some (M15, r14))))
set_option maxHeartbeats 4000000 in
set_option maxRecDepth 100000 in
theorem tX7_setLeg_b30 {p : Program} {l : Launch} {e : Env} {s : State} {m : MethodId} {args : Array Value} {below : List Frame} {meth : Method} {c : Code} {G : GT} {kd : Nat → Nat × Nat} {ad : Nat → Nat} (C : Cx p s m args meth c cX7_setLeg 3 (some .int) RX7 G kd ad) {k0 : Nat} (hk0 : kModel kd k0) {MO : Mem} {vo : Int32}   : ∀ (x1 : Int32) (x2 : Int32) (y1 : Int32) (y2 : Int32) (y3 : Int32) (M : Mem), mX7_setLeg_b30 k0 x1 x2 y1 y2 y3 M = some (MO, vo) → At p l e (rmO 2 0 0) s m args below meth c 0 0 (MQ below (Qg G kd ad s.heap.size MO (some (.int vo))) args s 0 0 (AS kd ad s.heap.size)) G kd ad 3 30 [(0, .ref (ad k0)), (1, .int x1), (2, .int x2)] [.int y3, .int y2, .int y1, .ref (ad k0)] M := by
  intro x1 x2 y1 y2 y3 M hf H locs ls hI hl
  obtain ⟨hx, hb, hml, hr, hown, hts, hlk, hK, hap, hsx⟩ := id C
  unfold mX7_setLeg_b30 at hf
  obtain ⟨M11, r10, q9, hf⟩ := cal_s hf
  refine g_callVi hx hb hml hown hts hK hap hsx hI (tX7_good__ l hk0 q9 H.size) cv_X7_good__ q_t9_183 rfl rfl ⟨Nat.le_of_ble_eq_true rfl, Nat.le_of_ble_eq_true rfl⟩ hk0.1 (by simp) rfl rfl rfl hl.1 rfl (Nat.le_of_ble_eq_true rfl) (dc tbX7_setLeg_k 17 rfl) ⟨Nat.le_of_ble_eq_true rfl, Nat.le_of_ble_eq_true rfl⟩ (fun H locs hI => ?_)
  refine lv_if_eq (tgt := 47) hx hb (dc tbX7_setLeg_k 18 rfl) rfl (fun c12 => ?_) (fun c12 => ?_)
  · have hf := ite_t c12 hf
    refine lv_iconst (v := 0) hx hb (dc tbX7_setLeg_k 26 rfl) ic_0 ?_
    cases hf
    exact g_iret hx hb hr hlk hI (dc tbX7_setLeg_k 27 rfl)
  · have hf := ite_f c12 hf
    refine lv_aload_n hx hb (dc tbX7_setLeg_k 19 rfl) rfl (lv_at hl 0 rfl) ?_
    refine lv_iconst (v := 2) hx hb (dc tbX7_setLeg_k 20 rfl) ic_2 ?_
    refine lv_iload_n hx hb (dc tbX7_setLeg_k 21 rfl) rfl (lv_at hl 1 rfl) ?_
    refine lv_iadd hx hb (dc tbX7_setLeg_k 22 rfl) ?_
    refine lv_iload_n hx hb (dc tbX7_setLeg_k 23 rfl) rfl (lv_at hl 2 rfl) ?_
    obtain ⟨M15, r14, q13, hf⟩ := cal_s hf
    refine g_callVi hx hb hml hown hts hK hap hsx hI (tX7_set l hk0 q13 H.size) cv_X7_set q_t9_208 rfl rfl ⟨Nat.le_of_ble_eq_true rfl, Nat.le_of_ble_eq_true rfl⟩ hk0.1 (by simp) rfl rfl rfl hl.1 rfl (Nat.le_of_ble_eq_true rfl) (dc tbX7_setLeg_k 24 rfl) ⟨Nat.le_of_ble_eq_true rfl, Nat.le_of_ble_eq_true rfl⟩ (fun H locs hI => ?_)
    refine lv_goto (tgt := 48) hx hb (dc tbX7_setLeg_k 25 rfl) rfl ?_
    cases hf
    exact g_iret hx hb hr hlk hI (dc tbX7_setLeg_k 27 rfl)
def mX7_setLeg (k0 : Nat) (x1 : Int32) (x2 : Int32) (M : Mem) : Option (Mem × Int32) := cap (mX7_isLeg k0 x1 M) (fun r2 => cap (mX7_between (x2).toInt64 (1 : Int64) (9999 : Int64) M) (fun r5 => chk (okb (53 : Int32) 86) (ite2 ((rd M (k0 + 1) ((53 : Int32)).toNatClampNeg) = 0) (mX7_setLeg_b30 k0 x1 x2 r2 r5 (1 : Int32) M) (mX7_setLeg_b30 k0 x1 x2 r2 r5 (0 : Int32) M))))
set_option maxHeartbeats 4000000 in
set_option maxRecDepth 100000 in
theorem tX7_setLeg (l : Launch) {G : GT} {kd : Nat → Nat × Nat} {ad : Nat → Nat} {k0 : Nat} (hk0 : kModel kd k0) {x1 : Int32} {x2 : Int32} {M : Mem} {MO : Mem} {vo : Int32} (hf : mX7_setLeg k0 x1 x2 M = some (MO, vo)) (n : Nat) : Met l yX7_setLeg (Cond.code yX7_setLeg cX7_setLeg 3 (some .int) :: WA) (rmO 2 0 0) (Pg G kd ad n [.ref (ad k0), .int x1, .int x2] M) (Qg G kd ad n MO (some (.int vo))) 0 0 (AS kd ad n) := by
  refine g_body (own := RX7) (by decide) rfl ?_ (Nat.le_of_ble_eq_true rfl)
  intro p e s m args below meth c C _ H locs ls hI hl
  obtain ⟨hx, hb, hml, hr, hown, hts, hlk, hK, hap, hsx⟩ := id C
  have hl : lv_has ls 3 [(0, .ref (ad k0)), (1, .int x1), (2, .int x2)] := hl
  unfold mX7_setLeg at hf
  refine lv_aload_n hx hb (dc tbX7_setLeg_k 0 rfl) rfl (lv_at hl 0 rfl) ?_
  refine lv_aload_n hx hb (dc tbX7_setLeg_k 1 rfl) rfl (lv_at hl 0 rfl) ?_
  refine lv_iload_n hx hb (dc tbX7_setLeg_k 2 rfl) rfl (lv_at hl 1 rfl) ?_
  obtain ⟨r2, q1, hf⟩ := cap_s hf
  refine g_callVi hx hb hml hown hts hK hap hsx hI (tX7_isLeg l hk0 q1 H.size) cv_X7_isLeg q_t8_52 rfl rfl ⟨Nat.le_of_ble_eq_true rfl, Nat.le_of_ble_eq_true rfl⟩ hk0.1 (by simp) rfl rfl rfl hl.1 rfl (Nat.le_of_ble_eq_true rfl) (dc tbX7_setLeg_k 3 rfl) ⟨Nat.le_of_ble_eq_true rfl, Nat.le_of_ble_eq_true rfl⟩ (fun H locs hI => ?_)
  refine lv_iload_n hx hb (dc tbX7_setLeg_k 4 rfl) rfl (lv_at hl 2 rfl) ?_
  refine lv_i2l hx hb (dc tbX7_setLeg_k 5 rfl) rfl ?_
  refine lv_lconst (v := 1) hx hb (dc tbX7_setLeg_k 6 rfl) (by decide) ?_
  refine lv_ldc2 hx hb hown (hts _ q_t9_207) (dc tbX7_setLeg_k 7 rfl) ?_
  obtain ⟨r5, q4, hf⟩ := cap_s hf
  refine g_callSi hx hb hml hown hts hK hap hsx hI (tX7_between l  q4 H.size) cs_X7_between q_t7_190 rfl rfl ⟨Nat.le_of_ble_eq_true rfl, Nat.le_of_ble_eq_true rfl⟩ rfl hl.1 rfl (Nat.le_of_ble_eq_true rfl) (dc tbX7_setLeg_k 8 rfl) ⟨Nat.le_of_ble_eq_true rfl, Nat.le_of_ble_eq_true rfl⟩ (fun H locs hI => ?_)
  refine lv_aload_n hx hb (dc tbX7_setLeg_k 9 rfl) rfl (lv_at hl 0 rfl) ?_
  refine gg7_0 hx hb hts hown hK hI hk0.1 q_t7_76 (dc tbX7_setLeg_k 10 rfl) ?_
  refine lv_bipush (v := 53) hx hb (dc tbX7_setLeg_k 11 rfl) bp_53 ?_
  obtain ⟨h7, hf⟩ := chk_s hf
  refine g_iald hx hb hK hI hk0.2.1 (okb_in h7) (dc tbX7_setLeg_k 12 rfl) ?_
  refine lv_if_ne (tgt := 29) hx hb (dc tbX7_setLeg_k 13 rfl) rfl (fun c8 => ?_) (fun c8 => ?_)
  · have hf := ite_f c8 hf
    refine lv_iconst (v := 0) hx hb (dc tbX7_setLeg_k 16 rfl) ic_0 ?_
    exact tX7_setLeg_b30 C hk0 x1 x2 r2 r5 (0 : Int32) M hf _ _ _ hI (lv_sub hl [0, 1, 2] rfl)
  · have hf := ite_t c8 hf
    refine lv_iconst (v := 1) hx hb (dc tbX7_setLeg_k 14 rfl) ic_1 ?_
    refine lv_goto (tgt := 30) hx hb (dc tbX7_setLeg_k 15 rfl) rfl ?_
    exact tX7_setLeg_b30 C hk0 x1 x2 r2 r5 (1 : Int32) M hf _ _ _ hI (lv_sub hl [0, 1, 2] rfl)
theorem cv_X7_setLeg : cvF RX7 yX7_setLeg cX7_setLeg 3 (some .int) 2 := ⟨q_t9_204, q_t9_205, q_t1_11, q_t9_206, by decide +kernel⟩
def mX7_setDirection_b41 (k0 : Nat) (y1 : Int32) (y2 : Int32) (M : Mem) : Option (Mem × Int32) := cal (mX7_set k0 y1 y2 M) (fun M13 r12 => ite2 (r12 = (1 : Int32)) (some (M13, (1 : Int32))) (some (M13, (0 : Int32))))
set_option maxHeartbeats 4000000 in
set_option maxRecDepth 100000 in
theorem tX7_setDirection_b41 {p : Program} {l : Launch} {e : Env} {s : State} {m : MethodId} {args : Array Value} {below : List Frame} {meth : Method} {c : Code} {G : GT} {kd : Nat → Nat × Nat} {ad : Nat → Nat} (C : Cx p s m args meth c cX7_setDirection 3 (some .boolean) RX7 G kd ad) {k0 : Nat} (hk0 : kModel kd k0) {MO : Mem} {vo : Int32}   : ∀ (y1 : Int32) (y2 : Int32) (M : Mem), mX7_setDirection_b41 k0 y1 y2 M = some (MO, vo) → At p l e (rmO 2 0 0) s m args below meth c 0 0 (MQ below (Qg G kd ad s.heap.size MO (some (.int vo))) args s 0 0 (AS kd ad s.heap.size)) G kd ad 3 41 [] [.int y2, .int y1, .ref (ad k0)] M := by
  intro y1 y2 M hf H locs ls hI hl
  obtain ⟨hx, hb, hml, hr, hown, hts, hlk, hK, hap, hsx⟩ := id C
  unfold mX7_setDirection_b41 at hf
  obtain ⟨M13, r12, q11, hf⟩ := cal_s hf
  refine g_callVi hx hb hml hown hts hK hap hsx hI (tX7_set l hk0 q11 H.size) cv_X7_set q_t9_208 rfl rfl ⟨Nat.le_of_ble_eq_true rfl, Nat.le_of_ble_eq_true rfl⟩ hk0.1 (by simp) rfl rfl rfl hl.1 rfl (Nat.le_of_ble_eq_true rfl) (dc tbX7_setDirection_k 23 rfl) ⟨Nat.le_of_ble_eq_true rfl, Nat.le_of_ble_eq_true rfl⟩ (fun H locs hI => ?_)
  refine lv_iconst (v := 1) hx hb (dc tbX7_setDirection_k 24 rfl) ic_1 ?_
  refine lv_icmp_ne (tgt := 52) hx hb (dc tbX7_setDirection_k 25 rfl) rfl (fun c14 => ?_) (fun c14 => ?_)
  · have hf := ite_f c14 hf
    refine lv_iconst (v := 0) hx hb (dc tbX7_setDirection_k 28 rfl) ic_0 ?_
    cases hf
    exact g_zret hx hb hr hlk hI rfl (dc tbX7_setDirection_k 29 rfl)
  · have hf := ite_t c14 hf
    refine lv_iconst (v := 1) hx hb (dc tbX7_setDirection_k 26 rfl) ic_1 ?_
    refine lv_goto (tgt := 53) hx hb (dc tbX7_setDirection_k 27 rfl) rfl ?_
    cases hf
    exact g_zret hx hb hr hlk hI rfl (dc tbX7_setDirection_k 29 rfl)
def mX7_setDirection_b21 (k0 : Nat) (x1 : Int32) (x2 : Int32) (y1 : Int32) (y2 : Int32) (M : Mem) : Option (Mem × Int32) := cal (mX7_good_ k0 y1 y2 M) (fun M8 r7 => ite2 (r7 = 0) (some (M8, (0 : Int32))) (ite2 (x2 = 0) (mX7_setDirection_b41 k0 ((11 : Int32) + x1) (0 : Int32) M8) (mX7_setDirection_b41 k0 ((11 : Int32) + x1) (1 : Int32) M8)))
set_option maxHeartbeats 4000000 in
set_option maxRecDepth 100000 in
theorem tX7_setDirection_b21 {p : Program} {l : Launch} {e : Env} {s : State} {m : MethodId} {args : Array Value} {below : List Frame} {meth : Method} {c : Code} {G : GT} {kd : Nat → Nat × Nat} {ad : Nat → Nat} (C : Cx p s m args meth c cX7_setDirection 3 (some .boolean) RX7 G kd ad) {k0 : Nat} (hk0 : kModel kd k0) {MO : Mem} {vo : Int32}   : ∀ (x1 : Int32) (x2 : Int32) (y1 : Int32) (y2 : Int32) (M : Mem), mX7_setDirection_b21 k0 x1 x2 y1 y2 M = some (MO, vo) → At p l e (rmO 2 0 0) s m args below meth c 0 0 (MQ below (Qg G kd ad s.heap.size MO (some (.int vo))) args s 0 0 (AS kd ad s.heap.size)) G kd ad 3 21 [(0, .ref (ad k0)), (1, .int x1), (2, .int x2)] [.int y2, .int y1, .ref (ad k0)] M := by
  intro x1 x2 y1 y2 M hf H locs ls hI hl
  obtain ⟨hx, hb, hml, hr, hown, hts, hlk, hK, hap, hsx⟩ := id C
  unfold mX7_setDirection_b21 at hf
  obtain ⟨M8, r7, q6, hf⟩ := cal_s hf
  refine g_callVi hx hb hml hown hts hK hap hsx hI (tX7_good_ l hk0 q6 H.size) cv_X7_good_ q_t8_186 rfl rfl ⟨Nat.le_of_ble_eq_true rfl, Nat.le_of_ble_eq_true rfl⟩ hk0.1 (by simp) rfl rfl rfl hl.1 rfl (Nat.le_of_ble_eq_true rfl) (dc tbX7_setDirection_k 12 rfl) ⟨Nat.le_of_ble_eq_true rfl, Nat.le_of_ble_eq_true rfl⟩ (fun H locs hI => ?_)
  refine lv_if_eq (tgt := 52) hx hb (dc tbX7_setDirection_k 13 rfl) rfl (fun c9 => ?_) (fun c9 => ?_)
  · have hf := ite_t c9 hf
    refine lv_iconst (v := 0) hx hb (dc tbX7_setDirection_k 28 rfl) ic_0 ?_
    cases hf
    exact g_zret hx hb hr hlk hI rfl (dc tbX7_setDirection_k 29 rfl)
  · have hf := ite_f c9 hf
    refine lv_aload_n hx hb (dc tbX7_setDirection_k 14 rfl) rfl (lv_at hl 0 rfl) ?_
    refine lv_bipush (v := 11) hx hb (dc tbX7_setDirection_k 15 rfl) bp_11 ?_
    refine lv_iload_n hx hb (dc tbX7_setDirection_k 16 rfl) rfl (lv_at hl 1 rfl) ?_
    refine lv_iadd hx hb (dc tbX7_setDirection_k 17 rfl) ?_
    refine lv_iload_n hx hb (dc tbX7_setDirection_k 18 rfl) rfl (lv_at hl 2 rfl) ?_
    refine lv_if_eq (tgt := 40) hx hb (dc tbX7_setDirection_k 19 rfl) rfl (fun c10 => ?_) (fun c10 => ?_)
    · have hf := ite_t c10 hf
      refine lv_iconst (v := 0) hx hb (dc tbX7_setDirection_k 22 rfl) ic_0 ?_
      exact tX7_setDirection_b41 C hk0 ((11 : Int32) + x1) (0 : Int32) M8 hf _ _ _ hI (lv_sub hl [] rfl)
    · have hf := ite_f c10 hf
      refine lv_iconst (v := 1) hx hb (dc tbX7_setDirection_k 20 rfl) ic_1 ?_
      refine lv_goto (tgt := 41) hx hb (dc tbX7_setDirection_k 21 rfl) rfl ?_
      exact tX7_setDirection_b41 C hk0 ((11 : Int32) + x1) (1 : Int32) M8 hf _ _ _ hI (lv_sub hl [] rfl)
def mX7_setDirection (k0 : Nat) (x1 : Int32) (x2 : Int32) (M : Mem) : Option (Mem × Int32) := cap (mX7_isBend k0 x1 M) (fun r2 => chk (okb (53 : Int32) 86) (ite2 ((rd M (k0 + 1) ((53 : Int32)).toNatClampNeg) = 0) (mX7_setDirection_b21 k0 x1 x2 r2 (1 : Int32) M) (mX7_setDirection_b21 k0 x1 x2 r2 (0 : Int32) M)))
set_option maxHeartbeats 4000000 in
set_option maxRecDepth 100000 in
theorem tX7_setDirection (l : Launch) {G : GT} {kd : Nat → Nat × Nat} {ad : Nat → Nat} {k0 : Nat} (hk0 : kModel kd k0) {x1 : Int32} {x2 : Int32} {M : Mem} {MO : Mem} {vo : Int32} (hf : mX7_setDirection k0 x1 x2 M = some (MO, vo)) (n : Nat) : Met l yX7_setDirection (Cond.code yX7_setDirection cX7_setDirection 3 (some .boolean) :: WA) (rmO 2 0 0) (Pg G kd ad n [.ref (ad k0), .int x1, .int x2] M) (Qg G kd ad n MO (some (.int vo))) 0 0 (AS kd ad n) := by
  refine g_body (own := RX7) (by decide) rfl ?_ (Nat.le_of_ble_eq_true rfl)
  intro p e s m args below meth c C _ H locs ls hI hl
  obtain ⟨hx, hb, hml, hr, hown, hts, hlk, hK, hap, hsx⟩ := id C
  have hl : lv_has ls 3 [(0, .ref (ad k0)), (1, .int x1), (2, .int x2)] := hl
  unfold mX7_setDirection at hf
  refine lv_aload_n hx hb (dc tbX7_setDirection_k 0 rfl) rfl (lv_at hl 0 rfl) ?_
  refine lv_aload_n hx hb (dc tbX7_setDirection_k 1 rfl) rfl (lv_at hl 0 rfl) ?_
  refine lv_iload_n hx hb (dc tbX7_setDirection_k 2 rfl) rfl (lv_at hl 1 rfl) ?_
  obtain ⟨r2, q1, hf⟩ := cap_s hf
  refine g_callVi hx hb hml hown hts hK hap hsx hI (tX7_isBend l hk0 q1 H.size) cv_X7_isBend q_t8_64 rfl rfl ⟨Nat.le_of_ble_eq_true rfl, Nat.le_of_ble_eq_true rfl⟩ hk0.1 (by simp) rfl rfl rfl hl.1 rfl (Nat.le_of_ble_eq_true rfl) (dc tbX7_setDirection_k 3 rfl) ⟨Nat.le_of_ble_eq_true rfl, Nat.le_of_ble_eq_true rfl⟩ (fun H locs hI => ?_)
  refine lv_aload_n hx hb (dc tbX7_setDirection_k 4 rfl) rfl (lv_at hl 0 rfl) ?_
  refine gg7_0 hx hb hts hown hK hI hk0.1 q_t7_76 (dc tbX7_setDirection_k 5 rfl) ?_
  refine lv_bipush (v := 53) hx hb (dc tbX7_setDirection_k 6 rfl) bp_53 ?_
  obtain ⟨h4, hf⟩ := chk_s hf
  refine g_iald hx hb hK hI hk0.2.1 (okb_in h4) (dc tbX7_setDirection_k 7 rfl) ?_
  refine lv_if_ne (tgt := 20) hx hb (dc tbX7_setDirection_k 8 rfl) rfl (fun c5 => ?_) (fun c5 => ?_)
  · have hf := ite_f c5 hf
    refine lv_iconst (v := 0) hx hb (dc tbX7_setDirection_k 11 rfl) ic_0 ?_
    exact tX7_setDirection_b21 C hk0 x1 x2 r2 (0 : Int32) M hf _ _ _ hI (lv_sub hl [0, 1, 2] rfl)
  · have hf := ite_t c5 hf
    refine lv_iconst (v := 1) hx hb (dc tbX7_setDirection_k 9 rfl) ic_1 ?_
    refine lv_goto (tgt := 21) hx hb (dc tbX7_setDirection_k 10 rfl) rfl ?_
    exact tX7_setDirection_b21 C hk0 x1 x2 r2 (1 : Int32) M hf _ _ _ hI (lv_sub hl [0, 1, 2] rfl)
theorem cv_X7_setDirection : cvF RX7 yX7_setDirection cX7_setDirection 3 (some .boolean) 2 := ⟨q_t9_213, q_t9_214, q_t1_11, q_t9_215, by decide +kernel⟩
def mX7_areTold_b48 (M : Mem) (x2 : Int32) : Option Int32 := cap (mX7_between (x2).toInt64 (0 : Int64) (9999 : Int64) M) (fun r7 => chk (isB r7) (some r7))
set_option maxHeartbeats 4000000 in
set_option maxRecDepth 100000 in
theorem tX7_areTold_b48 {p : Program} {l : Launch} {e : Env} {s : State} {m : MethodId} {args : Array Value} {below : List Frame} {meth : Method} {c : Code} {G : GT} {kd : Nat → Nat × Nat} {ad : Nat → Nat} (C : Cx p s m args meth c cX7_areTold 3 (some .boolean) RX7 G kd ad)  {M : Mem} {vo : Int32}   : ∀ (x2 : Int32), mX7_areTold_b48  M x2 = some vo → At p l e (rmO 1 0 0) s m args below meth c 0 0 (MQ below (Qg G kd ad s.heap.size M (some (.int vo))) args s 0 0 (AS kd ad s.heap.size)) G kd ad 3 48 [(2, .int x2)] [] M := by
  intro x2 hf H locs ls hI hl
  obtain ⟨hx, hb, hml, hr, hown, hts, hlk, hK, hap, hsx⟩ := id C
  unfold mX7_areTold_b48 at hf
  refine lv_iload_n hx hb (dc tbX7_areTold_k 9 rfl) rfl (lv_at hl 0 rfl) ?_
  refine lv_i2l hx hb (dc tbX7_areTold_k 10 rfl) rfl ?_
  refine lv_lconst (v := 0) hx hb (dc tbX7_areTold_k 11 rfl) (by decide) ?_
  refine lv_ldc2 hx hb hown (hts _ q_t9_207) (dc tbX7_areTold_k 12 rfl) ?_
  obtain ⟨r7, q6, hf⟩ := cap_s hf
  refine g_callSi hx hb hml hown hts hK hap hsx hI (tX7_between l  q6 H.size) cs_X7_between q_t7_190 rfl rfl ⟨Nat.le_of_ble_eq_true rfl, Nat.le_of_ble_eq_true rfl⟩ rfl hl.1 rfl (Nat.le_of_ble_eq_true rfl) (dc tbX7_areTold_k 13 rfl) ⟨Nat.le_of_ble_eq_true rfl, Nat.le_of_ble_eq_true rfl⟩ (fun H locs hI => ?_)
  obtain ⟨h9, hf⟩ := chk_s hf
  cases hf
  exact g_zret hx hb hr hlk hI (isB_n h9) (dc tbX7_areTold_k 14 rfl)
def mX7_areTold (x0 : Int32) (x1 : Int32) (x2 : Int32) (M : Mem) : Option Int32 := cap (mX7_between (x1).toInt64 (0 : Int64) (9999 : Int64) M) (fun r2 => ite2 (r2 = 0) (some (0 : Int32)) (ite2 (x0 = (0 : Int32)) (mX7_areTold_b48  M x2) (ite2 (x0 = (1 : Int32)) (mX7_areTold_b48  M x2) (ite2 (x0 = (2 : Int32)) (mX7_areTold_b48  M x2) (ite2 (x0 = (3 : Int32)) (cap (mX7_between (x2).toInt64 (x1).toInt64 (9999 : Int64) M) (fun r14 => chk (isB r14) (some r14))) (ite2 (x0 = (4 : Int32)) (ite2 (x2 = 0) (some (1 : Int32)) (some (0 : Int32))) (some (0 : Int32))))))))
set_option maxHeartbeats 4000000 in
set_option maxRecDepth 100000 in
theorem tX7_areTold (l : Launch) {G : GT} {kd : Nat → Nat × Nat} {ad : Nat → Nat}  {x0 : Int32} {x1 : Int32} {x2 : Int32} {M : Mem} {vo : Int32} (hf : mX7_areTold  x0 x1 x2 M = some vo) (n : Nat) : Met l yX7_areTold (Cond.code yX7_areTold cX7_areTold 3 (some .boolean) :: WA) (rmO 1 0 0) (Pg G kd ad n [.int x0, .int x1, .int x2] M) (Qg G kd ad n M (some (.int vo))) 0 0 (AS kd ad n) := by
  refine g_body (own := RX7) (by decide) rfl ?_ (Nat.le_of_ble_eq_true rfl)
  intro p e s m args below meth c C _ H locs ls hI hl
  obtain ⟨hx, hb, hml, hr, hown, hts, hlk, hK, hap, hsx⟩ := id C
  have hl : lv_has ls 3 [(0, .int x0), (1, .int x1), (2, .int x2)] := hl
  unfold mX7_areTold at hf
  refine lv_iload_n hx hb (dc tbX7_areTold_k 0 rfl) rfl (lv_at hl 1 rfl) ?_
  refine lv_i2l hx hb (dc tbX7_areTold_k 1 rfl) rfl ?_
  refine lv_lconst (v := 0) hx hb (dc tbX7_areTold_k 2 rfl) (by decide) ?_
  refine lv_ldc2 hx hb hown (hts _ q_t9_207) (dc tbX7_areTold_k 3 rfl) ?_
  obtain ⟨r2, q1, hf⟩ := cap_s hf
  refine g_callSi hx hb hml hown hts hK hap hsx hI (tX7_between l  q1 H.size) cs_X7_between q_t7_190 rfl rfl ⟨Nat.le_of_ble_eq_true rfl, Nat.le_of_ble_eq_true rfl⟩ rfl hl.1 rfl (Nat.le_of_ble_eq_true rfl) (dc tbX7_areTold_k 4 rfl) ⟨Nat.le_of_ble_eq_true rfl, Nat.le_of_ble_eq_true rfl⟩ (fun H locs hI => ?_)
  refine lv_if_ne (tgt := 14) hx hb (dc tbX7_areTold_k 5 rfl) rfl (fun c4 => ?_) (fun c4 => ?_)
  · have hf := ite_f c4 hf
    refine lv_iload_n hx hb (dc tbX7_areTold_k 8 rfl) rfl (lv_at hl 0 rfl) ?_
    refine by_c (c := x0 = (0 : Int32)) (fun c5 => ?_) (fun c5 => ?_)
    · have hf := ite_t c5 hf
      refine lv_et c5 ?_
      refine lv_tableIn (tgt := 48) hx hb dX7_areTold_15 (by decide) (by decide) rfl rfl ?_
      exact tX7_areTold_b48 C  x2 hf _ _ _ hI (lv_sub hl [2] rfl)
    · have hf := ite_f c5 hf
      refine by_c (c := x0 = (1 : Int32)) (fun c10 => ?_) (fun c10 => ?_)
      · have hf := ite_t c10 hf
        refine lv_et c10 ?_
        refine lv_tableIn (tgt := 48) hx hb dX7_areTold_15 (by decide) (by decide) rfl rfl ?_
        exact tX7_areTold_b48 C  x2 hf _ _ _ hI (lv_sub hl [2] rfl)
      · have hf := ite_f c10 hf
        refine by_c (c := x0 = (2 : Int32)) (fun c11 => ?_) (fun c11 => ?_)
        · have hf := ite_t c11 hf
          refine lv_et c11 ?_
          refine lv_tableIn (tgt := 48) hx hb dX7_areTold_15 (by decide) (by decide) rfl rfl ?_
          exact tX7_areTold_b48 C  x2 hf _ _ _ hI (lv_sub hl [2] rfl)
        · have hf := ite_f c11 hf
          refine by_c (c := x0 = (3 : Int32)) (fun c12 => ?_) (fun c12 => ?_)
          · have hf := ite_t c12 hf
            refine lv_et c12 ?_
            refine lv_tableIn (tgt := 58) hx hb dX7_areTold_15 (by decide) (by decide) rfl rfl ?_
            refine lv_iload_n hx hb (dc tbX7_areTold_k 15 rfl) rfl (lv_at hl 2 rfl) ?_
            refine lv_i2l hx hb (dc tbX7_areTold_k 16 rfl) rfl ?_
            refine lv_iload_n hx hb (dc tbX7_areTold_k 17 rfl) rfl (lv_at hl 1 rfl) ?_
            refine lv_i2l hx hb (dc tbX7_areTold_k 18 rfl) rfl ?_
            refine lv_ldc2 hx hb hown (hts _ q_t9_207) (dc tbX7_areTold_k 19 rfl) ?_
            obtain ⟨r14, q13, hf⟩ := cap_s hf
            refine g_callSi hx hb hml hown hts hK hap hsx hI (tX7_between l  q13 H.size) cs_X7_between q_t7_190 rfl rfl ⟨Nat.le_of_ble_eq_true rfl, Nat.le_of_ble_eq_true rfl⟩ rfl hl.1 rfl (Nat.le_of_ble_eq_true rfl) (dc tbX7_areTold_k 20 rfl) ⟨Nat.le_of_ble_eq_true rfl, Nat.le_of_ble_eq_true rfl⟩ (fun H locs hI => ?_)
            obtain ⟨h16, hf⟩ := chk_s hf
            cases hf
            exact g_zret hx hb hr hlk hI (isB_n h16) (dc tbX7_areTold_k 21 rfl)
          · have hf := ite_f c12 hf
            refine by_c (c := x0 = (4 : Int32)) (fun c17 => ?_) (fun c17 => ?_)
            · have hf := ite_t c17 hf
              refine lv_et c17 ?_
              refine lv_tableIn (tgt := 69) hx hb dX7_areTold_15 (by decide) (by decide) rfl rfl ?_
              refine lv_iload_n hx hb (dc tbX7_areTold_k 22 rfl) rfl (lv_at hl 2 rfl) ?_
              refine lv_if_ne (tgt := 77) hx hb (dc tbX7_areTold_k 23 rfl) rfl (fun c18 => ?_) (fun c18 => ?_)
              · have hf := ite_f c18 hf
                refine lv_iconst (v := 0) hx hb (dc tbX7_areTold_k 26 rfl) ic_0 ?_
                cases hf
                exact g_zret hx hb hr hlk hI rfl (dc tbX7_areTold_k 27 rfl)
              · have hf := ite_t c18 hf
                refine lv_iconst (v := 1) hx hb (dc tbX7_areTold_k 24 rfl) ic_1 ?_
                refine lv_goto (tgt := 78) hx hb (dc tbX7_areTold_k 25 rfl) rfl ?_
                cases hf
                exact g_zret hx hb hr hlk hI rfl (dc tbX7_areTold_k 27 rfl)
            · have hf := ite_f c17 hf
              refine lv_tableOut (tgt := 79) hx hb dX7_areTold_15 (by have := sw_ne (k := 0) (z := 0) c5 rfl; have := sw_ne (k := 1) (z := 1) c10 rfl; have := sw_ne (k := 2) (z := 2) c11 rfl; have := sw_ne (k := 3) (z := 3) c12 rfl; have := sw_ne (k := 4) (z := 4) c17 rfl; omega) rfl ?_
              refine lv_iconst (v := 0) hx hb (dc tbX7_areTold_k 28 rfl) ic_0 ?_
              cases hf
              exact g_zret hx hb hr hlk hI rfl (dc tbX7_areTold_k 29 rfl)
  · have hf := ite_t c4 hf
    refine lv_iconst (v := 0) hx hb (dc tbX7_areTold_k 6 rfl) ic_0 ?_
    cases hf
    exact g_zret hx hb hr hlk hI rfl (dc tbX7_areTold_k 7 rfl)
theorem cs_X7_areTold : csF yX7_areTold cX7_areTold 3 (some .boolean) 3 := ⟨q_t9_221, q_t1_11, q_t9_222, by decide +kernel⟩
def mX7_setTool (k0 : Nat) (x1 : Int32) (x2 : Int32) (x3 : Int32) (M : Mem) : Option (Mem × Int32) := cap (mX7_areTold x1 x2 x3 M) (fun r2 => cal (mX7_good k0 r2 M) (fun M6 r5 => ite2 (r5 = 0) (some (M6, (0 : Int32))) (cal (mX7_set k0 ((39 : Int32) + ((2 : Int32) * x1)) x2 M6) (fun M10 r9 => chk (okb (((39 : Int32) + ((2 : Int32) * x1)) + (1 : Int32)) 86) (bnd (wr M10 (k0 + 1) ((((39 : Int32) + ((2 : Int32) * x1)) + (1 : Int32))).toNatClampNeg x3) (fun M13 => some (M13, r9)))))))
set_option maxHeartbeats 4000000 in
set_option maxRecDepth 100000 in
theorem tX7_setTool (l : Launch) {G : GT} {kd : Nat → Nat × Nat} {ad : Nat → Nat} {k0 : Nat} (hk0 : kModel kd k0) {x1 : Int32} {x2 : Int32} {x3 : Int32} {M : Mem} {MO : Mem} {vo : Int32} (hf : mX7_setTool k0 x1 x2 x3 M = some (MO, vo)) (n : Nat) : Met l yX7_setTool (Cond.code yX7_setTool cX7_setTool 5 (some .int) :: WA) (rmO 2 0 0) (Pg G kd ad n [.ref (ad k0), .int x1, .int x2, .int x3] M) (Qg G kd ad n MO (some (.int vo))) 0 0 (AS kd ad n) := by
  refine g_body (own := RX7) (by decide) rfl ?_ (Nat.le_of_ble_eq_true rfl)
  intro p e s m args below meth c C _ H locs ls hI hl
  obtain ⟨hx, hb, hml, hr, hown, hts, hlk, hK, hap, hsx⟩ := id C
  have hl : lv_has ls 5 [(0, .ref (ad k0)), (1, .int x1), (2, .int x2), (3, .int x3)] := hl
  unfold mX7_setTool at hf
  refine lv_aload_n hx hb (dc tbX7_setTool_k 0 rfl) rfl (lv_at hl 0 rfl) ?_
  refine lv_iload_n hx hb (dc tbX7_setTool_k 1 rfl) rfl (lv_at hl 1 rfl) ?_
  refine lv_iload_n hx hb (dc tbX7_setTool_k 2 rfl) rfl (lv_at hl 2 rfl) ?_
  refine lv_iload_n hx hb (dc tbX7_setTool_k 3 rfl) rfl (lv_at hl 3 rfl) ?_
  obtain ⟨r2, q1, hf⟩ := cap_s hf
  refine g_callSi hx hb hml hown hts hK hap hsx hI (tX7_areTold l  q1 H.size) cs_X7_areTold q_t9_220 rfl rfl ⟨Nat.le_of_ble_eq_true rfl, Nat.le_of_ble_eq_true rfl⟩ rfl hl.1 rfl (Nat.le_of_ble_eq_true rfl) (dc tbX7_setTool_k 4 rfl) ⟨Nat.le_of_ble_eq_true rfl, Nat.le_of_ble_eq_true rfl⟩ (fun H locs hI => ?_)
  obtain ⟨M6, r5, q4, hf⟩ := cal_s hf
  refine g_callVi hx hb hml hown hts hK hap hsx hI (tX7_good l hk0 q4 H.size) cv_X7_good q_t8_56 rfl rfl ⟨Nat.le_of_ble_eq_true rfl, Nat.le_of_ble_eq_true rfl⟩ hk0.1 (by simp) rfl rfl rfl hl.1 rfl (Nat.le_of_ble_eq_true rfl) (dc tbX7_setTool_k 5 rfl) ⟨Nat.le_of_ble_eq_true rfl, Nat.le_of_ble_eq_true rfl⟩ (fun H locs hI => ?_)
  refine lv_if_ne (tgt := 15) hx hb (dc tbX7_setTool_k 6 rfl) rfl (fun c7 => ?_) (fun c7 => ?_)
  · have hf := ite_f c7 hf
    refine lv_aload_n hx hb (dc tbX7_setTool_k 9 rfl) rfl (lv_at hl 0 rfl) ?_
    refine lv_bipush (v := 39) hx hb (dc tbX7_setTool_k 10 rfl) bp_39 ?_
    refine lv_iconst (v := 2) hx hb (dc tbX7_setTool_k 11 rfl) ic_2 ?_
    refine lv_iload_n hx hb (dc tbX7_setTool_k 12 rfl) rfl (lv_at hl 1 rfl) ?_
    refine lv_imul hx hb (dc tbX7_setTool_k 13 rfl) ?_
    refine lv_iadd hx hb (dc tbX7_setTool_k 14 rfl) ?_
    refine lv_iload_n hx hb (dc tbX7_setTool_k 15 rfl) rfl (lv_at hl 2 rfl) ?_
    obtain ⟨M10, r9, q8, hf⟩ := cal_s hf
    refine g_callVi hx hb hml hown hts hK hap hsx hI (tX7_set l hk0 q8 H.size) cv_X7_set q_t9_208 rfl rfl ⟨Nat.le_of_ble_eq_true rfl, Nat.le_of_ble_eq_true rfl⟩ hk0.1 (by simp) rfl rfl rfl hl.1 rfl (Nat.le_of_ble_eq_true rfl) (dc tbX7_setTool_k 16 rfl) ⟨Nat.le_of_ble_eq_true rfl, Nat.le_of_ble_eq_true rfl⟩ (fun H locs hI => ?_)
    refine lv_istore (lv' := [(4, .int r9), (0, .ref (ad k0)), (1, .int x1), (2, .int x2), (3, .int x3)]) hx hb (dc tbX7_setTool_k 17 rfl) hl (by decide) rfl (fun ls hl => ?_)
    refine lv_aload_n hx hb (dc tbX7_setTool_k 18 rfl) rfl (lv_at hl 1 rfl) ?_
    refine gg7_0 hx hb hts hown hK hI hk0.1 q_t7_76 (dc tbX7_setTool_k 19 rfl) ?_
    refine lv_bipush (v := 39) hx hb (dc tbX7_setTool_k 20 rfl) bp_39 ?_
    refine lv_iconst (v := 2) hx hb (dc tbX7_setTool_k 21 rfl) ic_2 ?_
    refine lv_iload_n hx hb (dc tbX7_setTool_k 22 rfl) rfl (lv_at hl 2 rfl) ?_
    refine lv_imul hx hb (dc tbX7_setTool_k 23 rfl) ?_
    refine lv_iadd hx hb (dc tbX7_setTool_k 24 rfl) ?_
    refine lv_iconst (v := 1) hx hb (dc tbX7_setTool_k 25 rfl) ic_1 ?_
    refine lv_iadd hx hb (dc tbX7_setTool_k 26 rfl) ?_
    refine lv_iload_n hx hb (dc tbX7_setTool_k 27 rfl) rfl (lv_at hl 4 rfl) ?_
    obtain ⟨h11, hf⟩ := chk_s hf
    obtain ⟨M13, e12, hf⟩ := bnd_s hf
    refine g_iast hx hb hK hap hI hk0.2.1 (okb_in h11) (dc tbX7_setTool_k 28 rfl) e12 (fun H locs hI => ?_)
    refine lv_iload hx hb (dc tbX7_setTool_k 29 rfl) (lv_at hl 0 rfl) ?_
    cases hf
    exact g_iret hx hb hr hlk hI (dc tbX7_setTool_k 30 rfl)
  · have hf := ite_t c7 hf
    refine lv_iconst (v := 0) hx hb (dc tbX7_setTool_k 7 rfl) ic_0 ?_
    cases hf
    exact g_iret hx hb hr hlk hI (dc tbX7_setTool_k 8 rfl)
theorem cv_X7_setTool : cvF RX7 yX7_setTool cX7_setTool 5 (some .int) 3 := ⟨q_t9_217, q_t9_218, q_t1_11, q_t9_219, by decide +kernel⟩
def mX7_setSheet_b42 (k0 : Nat) (x1 : Int32) (x2 : Int32) (x3 : Int32) (y1 : Int32) (M : Mem) : Option (Mem × Int32) := cal (mX7_good k0 y1 M) (fun M7 r6 => ite2 (r6 = 0) (some (M7, (0 : Int32))) (cal (mX7_set k0 (36 : Int32) x1 M7) (fun M11 r10 => chk (okb (37 : Int32) 86) (bnd (wr M11 (k0 + 1) ((37 : Int32)).toNatClampNeg x2) (fun M14 => chk (okb (38 : Int32) 86) (bnd (wr M14 (k0 + 1) ((38 : Int32)).toNatClampNeg x3) (fun M17 => some (M17, r10))))))))
set_option maxHeartbeats 4000000 in
set_option maxRecDepth 100000 in
theorem tX7_setSheet_b42 {p : Program} {l : Launch} {e : Env} {s : State} {m : MethodId} {args : Array Value} {below : List Frame} {meth : Method} {c : Code} {G : GT} {kd : Nat → Nat × Nat} {ad : Nat → Nat} (C : Cx p s m args meth c cX7_setSheet 5 (some .int) RX7 G kd ad) {k0 : Nat} (hk0 : kModel kd k0) {MO : Mem} {vo : Int32}   : ∀ (x1 : Int32) (x2 : Int32) (x3 : Int32) (y1 : Int32) (M : Mem), mX7_setSheet_b42 k0 x1 x2 x3 y1 M = some (MO, vo) → At p l e (rmO 2 0 0) s m args below meth c 0 0 (MQ below (Qg G kd ad s.heap.size MO (some (.int vo))) args s 0 0 (AS kd ad s.heap.size)) G kd ad 5 42 [(0, .ref (ad k0)), (1, .int x1), (2, .int x2), (3, .int x3)] [.int y1, .ref (ad k0)] M := by
  intro x1 x2 x3 y1 M hf H locs ls hI hl
  obtain ⟨hx, hb, hml, hr, hown, hts, hlk, hK, hap, hsx⟩ := id C
  unfold mX7_setSheet_b42 at hf
  obtain ⟨M7, r6, q5, hf⟩ := cal_s hf
  refine g_callVi hx hb hml hown hts hK hap hsx hI (tX7_good l hk0 q5 H.size) cv_X7_good q_t8_56 rfl rfl ⟨Nat.le_of_ble_eq_true rfl, Nat.le_of_ble_eq_true rfl⟩ hk0.1 (by simp) rfl rfl rfl hl.1 rfl (Nat.le_of_ble_eq_true rfl) (dc tbX7_setSheet_0_k 22 rfl) ⟨Nat.le_of_ble_eq_true rfl, Nat.le_of_ble_eq_true rfl⟩ (fun H locs hI => ?_)
  refine lv_if_ne (tgt := 50) hx hb (dc tbX7_setSheet_0_k 23 rfl) rfl (fun c8 => ?_) (fun c8 => ?_)
  · have hf := ite_f c8 hf
    refine lv_aload_n hx hb (dc tbX7_setSheet_0_k 26 rfl) rfl (lv_at hl 0 rfl) ?_
    refine lv_bipush (v := 36) hx hb (dc tbX7_setSheet_0_k 27 rfl) bp_36 ?_
    refine lv_iload_n hx hb (dc tbX7_setSheet_0_k 28 rfl) rfl (lv_at hl 1 rfl) ?_
    obtain ⟨M11, r10, q9, hf⟩ := cal_s hf
    refine g_callVi hx hb hml hown hts hK hap hsx hI (tX7_set l hk0 q9 H.size) cv_X7_set q_t9_208 rfl rfl ⟨Nat.le_of_ble_eq_true rfl, Nat.le_of_ble_eq_true rfl⟩ hk0.1 (by simp) rfl rfl rfl hl.1 rfl (Nat.le_of_ble_eq_true rfl) (dc tbX7_setSheet_0_k 29 rfl) ⟨Nat.le_of_ble_eq_true rfl, Nat.le_of_ble_eq_true rfl⟩ (fun H locs hI => ?_)
    refine lv_istore (lv' := [(4, .int r10), (0, .ref (ad k0)), (1, .int x1), (2, .int x2), (3, .int x3)]) hx hb (dc tbX7_setSheet_0_k 30 rfl) hl (by decide) rfl (fun ls hl => ?_)
    refine lv_aload_n hx hb (dc tbX7_setSheet_0_k 31 rfl) rfl (lv_at hl 1 rfl) ?_
    refine gg7_0 hx hb hts hown hK hI hk0.1 q_t7_76 (dc tbX7_setSheet_0_k 32 rfl) ?_
    refine lv_bipush (v := 37) hx hb (dc tbX7_setSheet_0_k 33 rfl) bp_37 ?_
    refine lv_iload_n hx hb (dc tbX7_setSheet_0_k 34 rfl) rfl (lv_at hl 3 rfl) ?_
    obtain ⟨h12, hf⟩ := chk_s hf
    obtain ⟨M14, e13, hf⟩ := bnd_s hf
    refine g_iast hx hb hK hap hI hk0.2.1 (okb_in h12) (dc tbX7_setSheet_0_k 35 rfl) e13 (fun H locs hI => ?_)
    refine lv_aload_n hx hb (dc tbX7_setSheet_0_k 36 rfl) rfl (lv_at hl 1 rfl) ?_
    refine gg7_0 hx hb hts hown hK hI hk0.1 q_t7_76 (dc tbX7_setSheet_0_k 37 rfl) ?_
    refine lv_bipush (v := 38) hx hb (dc tbX7_setSheet_0_k 38 rfl) bp_38 ?_
    refine lv_iload_n hx hb (dc tbX7_setSheet_0_k 39 rfl) rfl (lv_at hl 4 rfl) ?_
    obtain ⟨h15, hf⟩ := chk_s hf
    obtain ⟨M17, e16, hf⟩ := bnd_s hf
    refine g_iast hx hb hK hap hI hk0.2.1 (okb_in h15) (dc tbX7_setSheet_1_k 0 rfl) e16 (fun H locs hI => ?_)
    refine lv_iload hx hb (dc tbX7_setSheet_1_k 1 rfl) (lv_at hl 0 rfl) ?_
    cases hf
    exact g_iret hx hb hr hlk hI (dc tbX7_setSheet_1_k 2 rfl)
  · have hf := ite_t c8 hf
    refine lv_iconst (v := 0) hx hb (dc tbX7_setSheet_0_k 24 rfl) ic_0 ?_
    cases hf
    exact g_iret hx hb hr hlk hI (dc tbX7_setSheet_0_k 25 rfl)
def mX7_setSheet_b41 (k0 : Nat) (x1 : Int32) (x2 : Int32) (x3 : Int32) (M : Mem) : Option (Mem × Int32) := mX7_setSheet_b42 k0 x1 x2 x3 (0 : Int32) M
set_option maxHeartbeats 4000000 in
set_option maxRecDepth 100000 in
theorem tX7_setSheet_b41 {p : Program} {l : Launch} {e : Env} {s : State} {m : MethodId} {args : Array Value} {below : List Frame} {meth : Method} {c : Code} {G : GT} {kd : Nat → Nat × Nat} {ad : Nat → Nat} (C : Cx p s m args meth c cX7_setSheet 5 (some .int) RX7 G kd ad) {k0 : Nat} (hk0 : kModel kd k0) {MO : Mem} {vo : Int32}   : ∀ (x1 : Int32) (x2 : Int32) (x3 : Int32) (M : Mem), mX7_setSheet_b41 k0 x1 x2 x3 M = some (MO, vo) → At p l e (rmO 2 0 0) s m args below meth c 0 0 (MQ below (Qg G kd ad s.heap.size MO (some (.int vo))) args s 0 0 (AS kd ad s.heap.size)) G kd ad 5 41 [(0, .ref (ad k0)), (1, .int x1), (2, .int x2), (3, .int x3)] [.ref (ad k0)] M := by
  intro x1 x2 x3 M hf H locs ls hI hl
  obtain ⟨hx, hb, hml, hr, hown, hts, hlk, hK, hap, hsx⟩ := id C
  unfold mX7_setSheet_b41 at hf
  refine lv_iconst (v := 0) hx hb (dc tbX7_setSheet_0_k 21 rfl) ic_0 ?_
  exact tX7_setSheet_b42 C hk0 x1 x2 x3 (0 : Int32) M hf _ _ _ hI (lv_sub hl [0, 1, 2, 3] rfl)
def mX7_setSheet (k0 : Nat) (x1 : Int32) (x2 : Int32) (x3 : Int32) (M : Mem) : Option (Mem × Int32) := cap (mX7_between (x1).toInt64 (1 : Int64) (60 : Int64) M) (fun r2 => ite2 (r2 = 0) (mX7_setSheet_b41 k0 x1 x2 x3 M) (cap (mX7_between (x2).toInt64 (0 : Int64) (200 : Int64) M) (fun r19 => ite2 (r19 = 0) (mX7_setSheet_b41 k0 x1 x2 x3 M) (cap (mX7_between (x3).toInt64 (0 : Int64) (100 : Int64) M) (fun r23 => ite2 (r23 = 0) (mX7_setSheet_b41 k0 x1 x2 x3 M) (mX7_setSheet_b42 k0 x1 x2 x3 (1 : Int32) M))))))
set_option maxHeartbeats 4000000 in
set_option maxRecDepth 100000 in
theorem tX7_setSheet (l : Launch) {G : GT} {kd : Nat → Nat × Nat} {ad : Nat → Nat} {k0 : Nat} (hk0 : kModel kd k0) {x1 : Int32} {x2 : Int32} {x3 : Int32} {M : Mem} {MO : Mem} {vo : Int32} (hf : mX7_setSheet k0 x1 x2 x3 M = some (MO, vo)) (n : Nat) : Met l yX7_setSheet (Cond.code yX7_setSheet cX7_setSheet 5 (some .int) :: WA) (rmO 2 0 0) (Pg G kd ad n [.ref (ad k0), .int x1, .int x2, .int x3] M) (Qg G kd ad n MO (some (.int vo))) 0 0 (AS kd ad n) := by
  refine g_body (own := RX7) (by decide) rfl ?_ (Nat.le_of_ble_eq_true rfl)
  intro p e s m args below meth c C _ H locs ls hI hl
  obtain ⟨hx, hb, hml, hr, hown, hts, hlk, hK, hap, hsx⟩ := id C
  have hl : lv_has ls 5 [(0, .ref (ad k0)), (1, .int x1), (2, .int x2), (3, .int x3)] := hl
  unfold mX7_setSheet at hf
  refine lv_aload_n hx hb (dc tbX7_setSheet_0_k 0 rfl) rfl (lv_at hl 0 rfl) ?_
  refine lv_iload_n hx hb (dc tbX7_setSheet_0_k 1 rfl) rfl (lv_at hl 1 rfl) ?_
  refine lv_i2l hx hb (dc tbX7_setSheet_0_k 2 rfl) rfl ?_
  refine lv_lconst (v := 1) hx hb (dc tbX7_setSheet_0_k 3 rfl) (by decide) ?_
  refine lv_ldc2 hx hb hown (hts _ q_t9_227) (dc tbX7_setSheet_0_k 4 rfl) ?_
  obtain ⟨r2, q1, hf⟩ := cap_s hf
  refine g_callSi hx hb hml hown hts hK hap hsx hI (tX7_between l  q1 H.size) cs_X7_between q_t7_190 rfl rfl ⟨Nat.le_of_ble_eq_true rfl, Nat.le_of_ble_eq_true rfl⟩ rfl hl.1 rfl (Nat.le_of_ble_eq_true rfl) (dc tbX7_setSheet_0_k 5 rfl) ⟨Nat.le_of_ble_eq_true rfl, Nat.le_of_ble_eq_true rfl⟩ (fun H locs hI => ?_)
  refine lv_if_eq (tgt := 41) hx hb (dc tbX7_setSheet_0_k 6 rfl) rfl (fun c4 => ?_) (fun c4 => ?_)
  · have hf := ite_t c4 hf
    exact tX7_setSheet_b41 C hk0 x1 x2 x3 M hf _ _ _ hI (lv_sub hl [0, 1, 2, 3] rfl)
  · have hf := ite_f c4 hf
    refine lv_iload_n hx hb (dc tbX7_setSheet_0_k 7 rfl) rfl (lv_at hl 2 rfl) ?_
    refine lv_i2l hx hb (dc tbX7_setSheet_0_k 8 rfl) rfl ?_
    refine lv_lconst (v := 0) hx hb (dc tbX7_setSheet_0_k 9 rfl) (by decide) ?_
    refine lv_ldc2 hx hb hown (hts _ q_t9_228) (dc tbX7_setSheet_0_k 10 rfl) ?_
    obtain ⟨r19, q18, hf⟩ := cap_s hf
    refine g_callSi hx hb hml hown hts hK hap hsx hI (tX7_between l  q18 H.size) cs_X7_between q_t7_190 rfl rfl ⟨Nat.le_of_ble_eq_true rfl, Nat.le_of_ble_eq_true rfl⟩ rfl hl.1 rfl (Nat.le_of_ble_eq_true rfl) (dc tbX7_setSheet_0_k 11 rfl) ⟨Nat.le_of_ble_eq_true rfl, Nat.le_of_ble_eq_true rfl⟩ (fun H locs hI => ?_)
    refine lv_if_eq (tgt := 41) hx hb (dc tbX7_setSheet_0_k 12 rfl) rfl (fun c21 => ?_) (fun c21 => ?_)
    · have hf := ite_t c21 hf
      exact tX7_setSheet_b41 C hk0 x1 x2 x3 M hf _ _ _ hI (lv_sub hl [0, 1, 2, 3] rfl)
    · have hf := ite_f c21 hf
      refine lv_iload_n hx hb (dc tbX7_setSheet_0_k 13 rfl) rfl (lv_at hl 3 rfl) ?_
      refine lv_i2l hx hb (dc tbX7_setSheet_0_k 14 rfl) rfl ?_
      refine lv_lconst (v := 0) hx hb (dc tbX7_setSheet_0_k 15 rfl) (by decide) ?_
      refine lv_ldc2 hx hb hown (hts _ q_t9_229) (dc tbX7_setSheet_0_k 16 rfl) ?_
      obtain ⟨r23, q22, hf⟩ := cap_s hf
      refine g_callSi hx hb hml hown hts hK hap hsx hI (tX7_between l  q22 H.size) cs_X7_between q_t7_190 rfl rfl ⟨Nat.le_of_ble_eq_true rfl, Nat.le_of_ble_eq_true rfl⟩ rfl hl.1 rfl (Nat.le_of_ble_eq_true rfl) (dc tbX7_setSheet_0_k 17 rfl) ⟨Nat.le_of_ble_eq_true rfl, Nat.le_of_ble_eq_true rfl⟩ (fun H locs hI => ?_)
      refine lv_if_eq (tgt := 41) hx hb (dc tbX7_setSheet_0_k 18 rfl) rfl (fun c25 => ?_) (fun c25 => ?_)
      · have hf := ite_t c25 hf
        exact tX7_setSheet_b41 C hk0 x1 x2 x3 M hf _ _ _ hI (lv_sub hl [0, 1, 2, 3] rfl)
      · have hf := ite_f c25 hf
        refine lv_iconst (v := 1) hx hb (dc tbX7_setSheet_0_k 19 rfl) ic_1 ?_
        refine lv_goto (tgt := 42) hx hb (dc tbX7_setSheet_0_k 20 rfl) rfl ?_
        exact tX7_setSheet_b42 C hk0 x1 x2 x3 (1 : Int32) M hf _ _ _ hI (lv_sub hl [0, 1, 2, 3] rfl)
theorem cv_X7_setSheet : cvF RX7 yX7_setSheet cX7_setSheet 5 (some .int) 3 := ⟨q_t9_224, q_t9_225, q_t1_11, q_t9_226, by decide +kernel⟩
def mX7_setCost_b42 (k0 : Nat) (x1 : Int32) (x2 : Int32) (x3 : Int32) (y1 : Int32) (M : Mem) : Option (Mem × Int32) := cal (mX7_good k0 y1 M) (fun M7 r6 => ite2 (r6 = 0) (some (M7, (0 : Int32))) (cal (mX7_set k0 (49 : Int32) x1 M7) (fun M11 r10 => chk (okb (50 : Int32) 86) (bnd (wr M11 (k0 + 1) ((50 : Int32)).toNatClampNeg x2) (fun M14 => chk (okb (51 : Int32) 86) (bnd (wr M14 (k0 + 1) ((51 : Int32)).toNatClampNeg x3) (fun M17 => some (M17, r10))))))))
set_option maxHeartbeats 4000000 in
set_option maxRecDepth 100000 in
theorem tX7_setCost_b42 {p : Program} {l : Launch} {e : Env} {s : State} {m : MethodId} {args : Array Value} {below : List Frame} {meth : Method} {c : Code} {G : GT} {kd : Nat → Nat × Nat} {ad : Nat → Nat} (C : Cx p s m args meth c cX7_setCost 5 (some .int) RX7 G kd ad) {k0 : Nat} (hk0 : kModel kd k0) {MO : Mem} {vo : Int32}   : ∀ (x1 : Int32) (x2 : Int32) (x3 : Int32) (y1 : Int32) (M : Mem), mX7_setCost_b42 k0 x1 x2 x3 y1 M = some (MO, vo) → At p l e (rmO 2 0 0) s m args below meth c 0 0 (MQ below (Qg G kd ad s.heap.size MO (some (.int vo))) args s 0 0 (AS kd ad s.heap.size)) G kd ad 5 42 [(0, .ref (ad k0)), (1, .int x1), (2, .int x2), (3, .int x3)] [.int y1, .ref (ad k0)] M := by
  intro x1 x2 x3 y1 M hf H locs ls hI hl
  obtain ⟨hx, hb, hml, hr, hown, hts, hlk, hK, hap, hsx⟩ := id C
  unfold mX7_setCost_b42 at hf
  obtain ⟨M7, r6, q5, hf⟩ := cal_s hf
  refine g_callVi hx hb hml hown hts hK hap hsx hI (tX7_good l hk0 q5 H.size) cv_X7_good q_t8_56 rfl rfl ⟨Nat.le_of_ble_eq_true rfl, Nat.le_of_ble_eq_true rfl⟩ hk0.1 (by simp) rfl rfl rfl hl.1 rfl (Nat.le_of_ble_eq_true rfl) (dc tbX7_setCost_0_k 22 rfl) ⟨Nat.le_of_ble_eq_true rfl, Nat.le_of_ble_eq_true rfl⟩ (fun H locs hI => ?_)
  refine lv_if_ne (tgt := 50) hx hb (dc tbX7_setCost_0_k 23 rfl) rfl (fun c8 => ?_) (fun c8 => ?_)
  · have hf := ite_f c8 hf
    refine lv_aload_n hx hb (dc tbX7_setCost_0_k 26 rfl) rfl (lv_at hl 0 rfl) ?_
    refine lv_bipush (v := 49) hx hb (dc tbX7_setCost_0_k 27 rfl) bp_49 ?_
    refine lv_iload_n hx hb (dc tbX7_setCost_0_k 28 rfl) rfl (lv_at hl 1 rfl) ?_
    obtain ⟨M11, r10, q9, hf⟩ := cal_s hf
    refine g_callVi hx hb hml hown hts hK hap hsx hI (tX7_set l hk0 q9 H.size) cv_X7_set q_t9_208 rfl rfl ⟨Nat.le_of_ble_eq_true rfl, Nat.le_of_ble_eq_true rfl⟩ hk0.1 (by simp) rfl rfl rfl hl.1 rfl (Nat.le_of_ble_eq_true rfl) (dc tbX7_setCost_0_k 29 rfl) ⟨Nat.le_of_ble_eq_true rfl, Nat.le_of_ble_eq_true rfl⟩ (fun H locs hI => ?_)
    refine lv_istore (lv' := [(4, .int r10), (0, .ref (ad k0)), (1, .int x1), (2, .int x2), (3, .int x3)]) hx hb (dc tbX7_setCost_0_k 30 rfl) hl (by decide) rfl (fun ls hl => ?_)
    refine lv_aload_n hx hb (dc tbX7_setCost_0_k 31 rfl) rfl (lv_at hl 1 rfl) ?_
    refine gg7_0 hx hb hts hown hK hI hk0.1 q_t7_76 (dc tbX7_setCost_0_k 32 rfl) ?_
    refine lv_bipush (v := 50) hx hb (dc tbX7_setCost_0_k 33 rfl) bp_50 ?_
    refine lv_iload_n hx hb (dc tbX7_setCost_0_k 34 rfl) rfl (lv_at hl 3 rfl) ?_
    obtain ⟨h12, hf⟩ := chk_s hf
    obtain ⟨M14, e13, hf⟩ := bnd_s hf
    refine g_iast hx hb hK hap hI hk0.2.1 (okb_in h12) (dc tbX7_setCost_0_k 35 rfl) e13 (fun H locs hI => ?_)
    refine lv_aload_n hx hb (dc tbX7_setCost_0_k 36 rfl) rfl (lv_at hl 1 rfl) ?_
    refine gg7_0 hx hb hts hown hK hI hk0.1 q_t7_76 (dc tbX7_setCost_0_k 37 rfl) ?_
    refine lv_bipush (v := 51) hx hb (dc tbX7_setCost_0_k 38 rfl) bp_51 ?_
    refine lv_iload_n hx hb (dc tbX7_setCost_0_k 39 rfl) rfl (lv_at hl 4 rfl) ?_
    obtain ⟨h15, hf⟩ := chk_s hf
    obtain ⟨M17, e16, hf⟩ := bnd_s hf
    refine g_iast hx hb hK hap hI hk0.2.1 (okb_in h15) (dc tbX7_setCost_1_k 0 rfl) e16 (fun H locs hI => ?_)
    refine lv_iload hx hb (dc tbX7_setCost_1_k 1 rfl) (lv_at hl 0 rfl) ?_
    cases hf
    exact g_iret hx hb hr hlk hI (dc tbX7_setCost_1_k 2 rfl)
  · have hf := ite_t c8 hf
    refine lv_iconst (v := 0) hx hb (dc tbX7_setCost_0_k 24 rfl) ic_0 ?_
    cases hf
    exact g_iret hx hb hr hlk hI (dc tbX7_setCost_0_k 25 rfl)
def mX7_setCost_b41 (k0 : Nat) (x1 : Int32) (x2 : Int32) (x3 : Int32) (M : Mem) : Option (Mem × Int32) := mX7_setCost_b42 k0 x1 x2 x3 (0 : Int32) M
set_option maxHeartbeats 4000000 in
set_option maxRecDepth 100000 in
theorem tX7_setCost_b41 {p : Program} {l : Launch} {e : Env} {s : State} {m : MethodId} {args : Array Value} {below : List Frame} {meth : Method} {c : Code} {G : GT} {kd : Nat → Nat × Nat} {ad : Nat → Nat} (C : Cx p s m args meth c cX7_setCost 5 (some .int) RX7 G kd ad) {k0 : Nat} (hk0 : kModel kd k0) {MO : Mem} {vo : Int32}   : ∀ (x1 : Int32) (x2 : Int32) (x3 : Int32) (M : Mem), mX7_setCost_b41 k0 x1 x2 x3 M = some (MO, vo) → At p l e (rmO 2 0 0) s m args below meth c 0 0 (MQ below (Qg G kd ad s.heap.size MO (some (.int vo))) args s 0 0 (AS kd ad s.heap.size)) G kd ad 5 41 [(0, .ref (ad k0)), (1, .int x1), (2, .int x2), (3, .int x3)] [.ref (ad k0)] M := by
  intro x1 x2 x3 M hf H locs ls hI hl
  obtain ⟨hx, hb, hml, hr, hown, hts, hlk, hK, hap, hsx⟩ := id C
  unfold mX7_setCost_b41 at hf
  refine lv_iconst (v := 0) hx hb (dc tbX7_setCost_0_k 21 rfl) ic_0 ?_
  exact tX7_setCost_b42 C hk0 x1 x2 x3 (0 : Int32) M hf _ _ _ hI (lv_sub hl [0, 1, 2, 3] rfl)
def mX7_setCost (k0 : Nat) (x1 : Int32) (x2 : Int32) (x3 : Int32) (M : Mem) : Option (Mem × Int32) := cap (mX7_between (x1).toInt64 (0 : Int64) (99 : Int64) M) (fun r2 => ite2 (r2 = 0) (mX7_setCost_b41 k0 x1 x2 x3 M) (cap (mX7_between (x2).toInt64 (0 : Int64) (99 : Int64) M) (fun r19 => ite2 (r19 = 0) (mX7_setCost_b41 k0 x1 x2 x3 M) (cap (mX7_between (x3).toInt64 (0 : Int64) (99 : Int64) M) (fun r23 => ite2 (r23 = 0) (mX7_setCost_b41 k0 x1 x2 x3 M) (mX7_setCost_b42 k0 x1 x2 x3 (1 : Int32) M))))))
set_option maxHeartbeats 4000000 in
set_option maxRecDepth 100000 in
theorem tX7_setCost (l : Launch) {G : GT} {kd : Nat → Nat × Nat} {ad : Nat → Nat} {k0 : Nat} (hk0 : kModel kd k0) {x1 : Int32} {x2 : Int32} {x3 : Int32} {M : Mem} {MO : Mem} {vo : Int32} (hf : mX7_setCost k0 x1 x2 x3 M = some (MO, vo)) (n : Nat) : Met l yX7_setCost (Cond.code yX7_setCost cX7_setCost 5 (some .int) :: WA) (rmO 2 0 0) (Pg G kd ad n [.ref (ad k0), .int x1, .int x2, .int x3] M) (Qg G kd ad n MO (some (.int vo))) 0 0 (AS kd ad n) := by
  refine g_body (own := RX7) (by decide) rfl ?_ (Nat.le_of_ble_eq_true rfl)
  intro p e s m args below meth c C _ H locs ls hI hl
  obtain ⟨hx, hb, hml, hr, hown, hts, hlk, hK, hap, hsx⟩ := id C
  have hl : lv_has ls 5 [(0, .ref (ad k0)), (1, .int x1), (2, .int x2), (3, .int x3)] := hl
  unfold mX7_setCost at hf
  refine lv_aload_n hx hb (dc tbX7_setCost_0_k 0 rfl) rfl (lv_at hl 0 rfl) ?_
  refine lv_iload_n hx hb (dc tbX7_setCost_0_k 1 rfl) rfl (lv_at hl 1 rfl) ?_
  refine lv_i2l hx hb (dc tbX7_setCost_0_k 2 rfl) rfl ?_
  refine lv_lconst (v := 0) hx hb (dc tbX7_setCost_0_k 3 rfl) (by decide) ?_
  refine lv_ldc2 hx hb hown (hts _ q_t9_234) (dc tbX7_setCost_0_k 4 rfl) ?_
  obtain ⟨r2, q1, hf⟩ := cap_s hf
  refine g_callSi hx hb hml hown hts hK hap hsx hI (tX7_between l  q1 H.size) cs_X7_between q_t7_190 rfl rfl ⟨Nat.le_of_ble_eq_true rfl, Nat.le_of_ble_eq_true rfl⟩ rfl hl.1 rfl (Nat.le_of_ble_eq_true rfl) (dc tbX7_setCost_0_k 5 rfl) ⟨Nat.le_of_ble_eq_true rfl, Nat.le_of_ble_eq_true rfl⟩ (fun H locs hI => ?_)
  refine lv_if_eq (tgt := 41) hx hb (dc tbX7_setCost_0_k 6 rfl) rfl (fun c4 => ?_) (fun c4 => ?_)
  · have hf := ite_t c4 hf
    exact tX7_setCost_b41 C hk0 x1 x2 x3 M hf _ _ _ hI (lv_sub hl [0, 1, 2, 3] rfl)
  · have hf := ite_f c4 hf
    refine lv_iload_n hx hb (dc tbX7_setCost_0_k 7 rfl) rfl (lv_at hl 2 rfl) ?_
    refine lv_i2l hx hb (dc tbX7_setCost_0_k 8 rfl) rfl ?_
    refine lv_lconst (v := 0) hx hb (dc tbX7_setCost_0_k 9 rfl) (by decide) ?_
    refine lv_ldc2 hx hb hown (hts _ q_t9_234) (dc tbX7_setCost_0_k 10 rfl) ?_
    obtain ⟨r19, q18, hf⟩ := cap_s hf
    refine g_callSi hx hb hml hown hts hK hap hsx hI (tX7_between l  q18 H.size) cs_X7_between q_t7_190 rfl rfl ⟨Nat.le_of_ble_eq_true rfl, Nat.le_of_ble_eq_true rfl⟩ rfl hl.1 rfl (Nat.le_of_ble_eq_true rfl) (dc tbX7_setCost_0_k 11 rfl) ⟨Nat.le_of_ble_eq_true rfl, Nat.le_of_ble_eq_true rfl⟩ (fun H locs hI => ?_)
    refine lv_if_eq (tgt := 41) hx hb (dc tbX7_setCost_0_k 12 rfl) rfl (fun c21 => ?_) (fun c21 => ?_)
    · have hf := ite_t c21 hf
      exact tX7_setCost_b41 C hk0 x1 x2 x3 M hf _ _ _ hI (lv_sub hl [0, 1, 2, 3] rfl)
    · have hf := ite_f c21 hf
      refine lv_iload_n hx hb (dc tbX7_setCost_0_k 13 rfl) rfl (lv_at hl 3 rfl) ?_
      refine lv_i2l hx hb (dc tbX7_setCost_0_k 14 rfl) rfl ?_
      refine lv_lconst (v := 0) hx hb (dc tbX7_setCost_0_k 15 rfl) (by decide) ?_
      refine lv_ldc2 hx hb hown (hts _ q_t9_234) (dc tbX7_setCost_0_k 16 rfl) ?_
      obtain ⟨r23, q22, hf⟩ := cap_s hf
      refine g_callSi hx hb hml hown hts hK hap hsx hI (tX7_between l  q22 H.size) cs_X7_between q_t7_190 rfl rfl ⟨Nat.le_of_ble_eq_true rfl, Nat.le_of_ble_eq_true rfl⟩ rfl hl.1 rfl (Nat.le_of_ble_eq_true rfl) (dc tbX7_setCost_0_k 17 rfl) ⟨Nat.le_of_ble_eq_true rfl, Nat.le_of_ble_eq_true rfl⟩ (fun H locs hI => ?_)
      refine lv_if_eq (tgt := 41) hx hb (dc tbX7_setCost_0_k 18 rfl) rfl (fun c25 => ?_) (fun c25 => ?_)
      · have hf := ite_t c25 hf
        exact tX7_setCost_b41 C hk0 x1 x2 x3 M hf _ _ _ hI (lv_sub hl [0, 1, 2, 3] rfl)
      · have hf := ite_f c25 hf
        refine lv_iconst (v := 1) hx hb (dc tbX7_setCost_0_k 19 rfl) ic_1 ?_
        refine lv_goto (tgt := 42) hx hb (dc tbX7_setCost_0_k 20 rfl) rfl ?_
        exact tX7_setCost_b42 C hk0 x1 x2 x3 (1 : Int32) M hf _ _ _ hI (lv_sub hl [0, 1, 2, 3] rfl)
theorem cv_X7_setCost : cvF RX7 yX7_setCost cX7_setCost 5 (some .int) 3 := ⟨q_t9_231, q_t9_232, q_t1_11, q_t9_233, by decide +kernel⟩
def mX7_put (k0 : Nat) (x1 : Int32) (M : Mem) : Option (Mem × Unit) := chk (okb (rd M k0 30) 120) (bnd (wr M (k0 + 16) ((rd M k0 30)).toNatClampNeg x1) (fun M3 => bnd (wr M3 k0 30 ((rd M3 k0 30) + (1 : Int32))) (fun M4 => some (M4, ()))))
set_option maxHeartbeats 4000000 in
set_option maxRecDepth 100000 in
theorem tX7_put (l : Launch) {G : GT} {kd : Nat → Nat × Nat} {ad : Nat → Nat} {k0 : Nat} (hk0 : kModel kd k0) {x1 : Int32} {M : Mem} {MO : Mem} {vo : Unit} (hf : mX7_put k0 x1 M = some (MO, vo)) (n : Nat) : Met l yX7_put (Cond.code yX7_put cX7_put 2 none :: WA) (rmO 0 0 0) (Pg G kd ad n [.ref (ad k0), .int x1] M) (Qg G kd ad n MO none) 0 0 (AS kd ad n) := by
  refine g_body (own := RX7) (by decide) rfl ?_ (Nat.le_of_ble_eq_true rfl)
  intro p e s m args below meth c C _ H locs ls hI hl
  obtain ⟨hx, hb, hml, hr, hown, hts, hlk, hK, hap, hsx⟩ := id C
  have hl : lv_has ls 2 [(0, .ref (ad k0)), (1, .int x1)] := hl
  unfold mX7_put at hf
  refine lv_aload_n hx hb (dc tbX7_put_k 0 rfl) rfl (lv_at hl 0 rfl) ?_
  refine gg7_29 hx hb hts hown hK hI hk0.1 q_t7_105 (dc tbX7_put_k 1 rfl) ?_
  refine lv_aload_n hx hb (dc tbX7_put_k 2 rfl) rfl (lv_at hl 0 rfl) ?_
  refine gg7_30 hx hb hts hown hK hI hk0.1 q_t7_106 (dc tbX7_put_k 3 rfl) ?_
  refine lv_iload_n hx hb (dc tbX7_put_k 4 rfl) rfl (lv_at hl 1 rfl) ?_
  obtain ⟨h1, hf⟩ := chk_s hf
  obtain ⟨M3, e2, hf⟩ := bnd_s hf
  refine g_iast hx hb hK hap hI hk0.2.2.2.2.2.2.2.2.2.2.2.2.2.2.2.2 (okb_in h1) (dc tbX7_put_k 5 rfl) e2 (fun H locs hI => ?_)
  refine lv_aload_n hx hb (dc tbX7_put_k 6 rfl) rfl (lv_at hl 0 rfl) ?_
  refine lv_dup hx hb (dc tbX7_put_k 7 rfl) rfl ?_
  refine gg7_30 hx hb hts hown hK hI hk0.1 q_t7_106 (dc tbX7_put_k 8 rfl) ?_
  refine lv_iconst (v := 1) hx hb (dc tbX7_put_k 9 rfl) ic_1 ?_
  refine lv_iadd hx hb (dc tbX7_put_k 10 rfl) ?_
  obtain ⟨M4, e5, hf⟩ := bnd_s hf
  refine gp7_30 hx hb hts hown hK hap hI hk0.1 q_t7_106 (dc tbX7_put_k 11 rfl) e5 (fun H locs hI => ?_)
  cases hf
  exact g_vret hx hb hr hlk hI (dc tbX7_put_k 12 rfl)
theorem cv_X7_put : cvF RX7 yX7_put cX7_put 2 none 1 := ⟨q_t10_5, q_s7_7, q_t1_11, q_t10_6, by decide +kernel⟩
def mX7_putNumber_b18 (k0 : Nat) (ih18 : Int32 → Int32 → Mem → Option (Mem × Unit)) (x1 : Int32) (x2 : Int32) (M : Mem) : Option (Mem × Unit) := ite2 (x2 ≤ 0) (some (M, ())) (chk (nzb x2) (cal (mX7_put k0 ((48 : Int32) + ((x1 / x2) - (x1 / x2) / (10 : Int32) * (10 : Int32))) M) (fun M7 _ => bnd ((x2 / (10 : Int32))) (fun x2_39 => ih18 x1 x2_39 M7))))
set_option maxHeartbeats 4000000 in
set_option maxRecDepth 100000 in
theorem tX7_putNumber_b18 {p : Program} {l : Launch} {e : Env} {s : State} {m : MethodId} {args : Array Value} {below : List Frame} {meth : Method} {c : Code} {G : GT} {kd : Nat → Nat × Nat} {ad : Nat → Nat} (C : Cx p s m args meth c cX7_putNumber 3 none RX7 G kd ad) {k0 : Nat} (hk0 : kModel kd k0) {MO : Mem} {vo : Unit} {ih18 : Int32 → Int32 → Mem → Option (Mem × Unit)} (hih18 : ∀ (x1 : Int32) (x2 : Int32) (M : Mem), ih18 x1 x2 M = some (MO, vo) → At p l e (rmO 1 0 0) s m args below meth c 0 0 (MQ below (Qg G kd ad s.heap.size MO none) args s 0 0 (AS kd ad s.heap.size)) G kd ad 3 18 [(0, .ref (ad k0)), (1, .int x1), (2, .int x2)] [] M) : ∀ (x1 : Int32) (x2 : Int32) (M : Mem), mX7_putNumber_b18 k0 ih18 x1 x2 M = some (MO, vo) → At p l e (rmO 1 0 0) s m args below meth c 0 0 (MQ below (Qg G kd ad s.heap.size MO none) args s 0 0 (AS kd ad s.heap.size)) G kd ad 3 18 [(0, .ref (ad k0)), (1, .int x1), (2, .int x2)] [] M := by
  intro x1 x2 M hf H locs ls hI hl
  obtain ⟨hx, hb, hml, hr, hown, hts, hlk, hK, hap, hsx⟩ := id C
  unfold mX7_putNumber_b18 at hf
  refine lv_iload_n hx hb (dc tbX7_putNumber_k 12 rfl) rfl (lv_at hl 2 rfl) ?_
  refine lv_if_le (tgt := 43) hx hb (dc tbX7_putNumber_k 13 rfl) rfl (fun c3 => ?_) (fun c3 => ?_)
  · have hf := ite_t c3 hf
    cases hf
    exact g_vret hx hb hr hlk hI (dc tbX7_putNumber_k 28 rfl)
  · have hf := ite_f c3 hf
    refine lv_aload_n hx hb (dc tbX7_putNumber_k 14 rfl) rfl (lv_at hl 0 rfl) ?_
    refine lv_bipush (v := 48) hx hb (dc tbX7_putNumber_k 15 rfl) bp_48 ?_
    refine lv_iload_n hx hb (dc tbX7_putNumber_k 16 rfl) rfl (lv_at hl 1 rfl) ?_
    refine lv_iload_n hx hb (dc tbX7_putNumber_k 17 rfl) rfl (lv_at hl 2 rfl) ?_
    obtain ⟨h4, hf⟩ := chk_s hf
    refine lv_idiv hx hb (dc tbX7_putNumber_k 18 rfl) (nz_b h4) ?_
    refine lv_bipush (v := 10) hx hb (dc tbX7_putNumber_k 19 rfl) bp_10 ?_
    refine lv_irem hx hb (dc tbX7_putNumber_k 20 rfl) (by decide) ?_
    refine lv_iadd hx hb (dc tbX7_putNumber_k 21 rfl) ?_
    obtain ⟨M7, r6, q5, hf⟩ := cal_s hf
    refine g_callVv hx hb hml hown hts hK hap hsx hI (tX7_put l hk0 q5 H.size) cv_X7_put q_t10_3 rfl rfl ⟨Nat.le_of_ble_eq_true rfl, Nat.le_of_ble_eq_true rfl⟩ hk0.1 (by simp) rfl rfl rfl hl.1 rfl (Nat.le_of_ble_eq_true rfl) (dc tbX7_putNumber_k 22 rfl) ⟨Nat.le_of_ble_eq_true rfl, Nat.le_of_ble_eq_true rfl⟩ (fun H locs hI => ?_)
    refine lv_iload_n hx hb (dc tbX7_putNumber_k 23 rfl) rfl (lv_at hl 2 rfl) ?_
    refine lv_bipush (v := 10) hx hb (dc tbX7_putNumber_k 24 rfl) bp_10 ?_
    refine lv_idiv hx hb (dc tbX7_putNumber_k 25 rfl) (by decide) ?_
    obtain ⟨x2_39, e8, hf⟩ := bnd_s hf
    refine lv_ei e8 ?_
    refine lv_istore_n (lv' := [(2, .int x2_39), (0, .ref (ad k0)), (1, .int x1)]) hx hb (dc tbX7_putNumber_k 26 rfl) rfl hl (by decide) rfl (fun ls hl => ?_)
    refine lv_goto (tgt := 18) hx hb (dc tbX7_putNumber_k 27 rfl) rfl ?_
    exact hih18 x1 x2_39 M7 hf _ _ _ hI (lv_sub hl [1, 2, 0] rfl)
def mX7_putNumber_l18 (k0 : Nat) : Nat → Int32 → Int32 → Mem → Option (Mem × Unit)
  | 0 => fun _ _ _ => none
  | n + 1 => mX7_putNumber_b18 k0 (mX7_putNumber_l18 k0 n)
theorem tX7_putNumber_l18 {p : Program} {l : Launch} {e : Env} {s : State} {m : MethodId} {args : Array Value} {below : List Frame} {meth : Method} {c : Code} {G : GT} {kd : Nat → Nat × Nat} {ad : Nat → Nat} (C : Cx p s m args meth c cX7_putNumber 3 none RX7 G kd ad) {k0 : Nat} (hk0 : kModel kd k0) {MO : Mem} {vo : Unit}   : ∀ (fuel : Nat) (x1 : Int32) (x2 : Int32) (M : Mem), mX7_putNumber_l18 k0 fuel x1 x2 M = some (MO, vo) → At p l e (rmO 1 0 0) s m args below meth c 0 0 (MQ below (Qg G kd ad s.heap.size MO none) args s 0 0 (AS kd ad s.heap.size)) G kd ad 3 18 [(0, .ref (ad k0)), (1, .int x1), (2, .int x2)] [] M := by
  intro fuel
  induction fuel with
  | zero => intro x1 x2 M hf; cases hf
  | succ n IH => exact tX7_putNumber_b18 C hk0 IH
def mX7_putNumber_b2 (k0 : Nat) (ih2 : Int32 → Int32 → Mem → Option (Mem × Unit)) (x1 : Int32) (x2 : Int32) (M : Mem) : Option (Mem × Unit) := chk (nzb x2) (ite2 ((x1 / x2) ≤ (9 : Int32)) (mX7_putNumber_l18 k0 5000 x1 x2 M) (bnd (((10 : Int32) * x2)) (fun x2_14 => ih2 x1 x2_14 M)))
set_option maxHeartbeats 4000000 in
set_option maxRecDepth 100000 in
theorem tX7_putNumber_b2 {p : Program} {l : Launch} {e : Env} {s : State} {m : MethodId} {args : Array Value} {below : List Frame} {meth : Method} {c : Code} {G : GT} {kd : Nat → Nat × Nat} {ad : Nat → Nat} (C : Cx p s m args meth c cX7_putNumber 3 none RX7 G kd ad) {k0 : Nat} (hk0 : kModel kd k0) {MO : Mem} {vo : Unit} {ih2 : Int32 → Int32 → Mem → Option (Mem × Unit)} (hih2 : ∀ (x1 : Int32) (x2 : Int32) (M : Mem), ih2 x1 x2 M = some (MO, vo) → At p l e (rmO 1 0 0) s m args below meth c 0 0 (MQ below (Qg G kd ad s.heap.size MO none) args s 0 0 (AS kd ad s.heap.size)) G kd ad 3 2 [(0, .ref (ad k0)), (1, .int x1), (2, .int x2)] [] M) : ∀ (x1 : Int32) (x2 : Int32) (M : Mem), mX7_putNumber_b2 k0 ih2 x1 x2 M = some (MO, vo) → At p l e (rmO 1 0 0) s m args below meth c 0 0 (MQ below (Qg G kd ad s.heap.size MO none) args s 0 0 (AS kd ad s.heap.size)) G kd ad 3 2 [(0, .ref (ad k0)), (1, .int x1), (2, .int x2)] [] M := by
  intro x1 x2 M hf H locs ls hI hl
  obtain ⟨hx, hb, hml, hr, hown, hts, hlk, hK, hap, hsx⟩ := id C
  unfold mX7_putNumber_b2 at hf
  refine lv_iload_n hx hb (dc tbX7_putNumber_k 2 rfl) rfl (lv_at hl 1 rfl) ?_
  refine lv_iload_n hx hb (dc tbX7_putNumber_k 3 rfl) rfl (lv_at hl 2 rfl) ?_
  obtain ⟨h1, hf⟩ := chk_s hf
  refine lv_idiv hx hb (dc tbX7_putNumber_k 4 rfl) (nz_b h1) ?_
  refine lv_bipush (v := 9) hx hb (dc tbX7_putNumber_k 5 rfl) bp_9 ?_
  refine lv_icmp_le (tgt := 18) hx hb (dc tbX7_putNumber_k 6 rfl) rfl (fun c2 => ?_) (fun c2 => ?_)
  · have hf := ite_t c2 hf
    exact tX7_putNumber_l18 C hk0 5000 x1 x2 M hf _ _ _ hI (lv_sub hl [0, 1, 2] rfl)
  · have hf := ite_f c2 hf
    refine lv_bipush (v := 10) hx hb (dc tbX7_putNumber_k 7 rfl) bp_10 ?_
    refine lv_iload_n hx hb (dc tbX7_putNumber_k 8 rfl) rfl (lv_at hl 2 rfl) ?_
    refine lv_imul hx hb (dc tbX7_putNumber_k 9 rfl) ?_
    obtain ⟨x2_14, e9, hf⟩ := bnd_s hf
    refine lv_ei e9 ?_
    refine lv_istore_n (lv' := [(2, .int x2_14), (0, .ref (ad k0)), (1, .int x1)]) hx hb (dc tbX7_putNumber_k 10 rfl) rfl hl (by decide) rfl (fun ls hl => ?_)
    refine lv_goto (tgt := 2) hx hb (dc tbX7_putNumber_k 11 rfl) rfl ?_
    exact hih2 x1 x2_14 M hf _ _ _ hI (lv_sub hl [1, 2, 0] rfl)
def mX7_putNumber_l2 (k0 : Nat) : Nat → Int32 → Int32 → Mem → Option (Mem × Unit)
  | 0 => fun _ _ _ => none
  | n + 1 => mX7_putNumber_b2 k0 (mX7_putNumber_l2 k0 n)
theorem tX7_putNumber_l2 {p : Program} {l : Launch} {e : Env} {s : State} {m : MethodId} {args : Array Value} {below : List Frame} {meth : Method} {c : Code} {G : GT} {kd : Nat → Nat × Nat} {ad : Nat → Nat} (C : Cx p s m args meth c cX7_putNumber 3 none RX7 G kd ad) {k0 : Nat} (hk0 : kModel kd k0) {MO : Mem} {vo : Unit}   : ∀ (fuel : Nat) (x1 : Int32) (x2 : Int32) (M : Mem), mX7_putNumber_l2 k0 fuel x1 x2 M = some (MO, vo) → At p l e (rmO 1 0 0) s m args below meth c 0 0 (MQ below (Qg G kd ad s.heap.size MO none) args s 0 0 (AS kd ad s.heap.size)) G kd ad 3 2 [(0, .ref (ad k0)), (1, .int x1), (2, .int x2)] [] M := by
  intro fuel
  induction fuel with
  | zero => intro x1 x2 M hf; cases hf
  | succ n IH => exact tX7_putNumber_b2 C hk0 IH
def mX7_putNumber (k0 : Nat) (x1 : Int32) (M : Mem) : Option (Mem × Unit) := mX7_putNumber_l2 k0 5000 x1 (1 : Int32) M
set_option maxHeartbeats 4000000 in
set_option maxRecDepth 100000 in
theorem tX7_putNumber (l : Launch) {G : GT} {kd : Nat → Nat × Nat} {ad : Nat → Nat} {k0 : Nat} (hk0 : kModel kd k0) {x1 : Int32} {M : Mem} {MO : Mem} {vo : Unit} (hf : mX7_putNumber k0 x1 M = some (MO, vo)) (n : Nat) : Met l yX7_putNumber (Cond.code yX7_putNumber cX7_putNumber 3 none :: WA) (rmO 1 0 0) (Pg G kd ad n [.ref (ad k0), .int x1] M) (Qg G kd ad n MO none) 0 0 (AS kd ad n) := by
  refine g_body (own := RX7) (by decide) rfl ?_ (Nat.le_of_ble_eq_true rfl)
  intro p e s m args below meth c C _ H locs ls hI hl
  obtain ⟨hx, hb, hml, hr, hown, hts, hlk, hK, hap, hsx⟩ := id C
  have hl : lv_has ls 3 [(0, .ref (ad k0)), (1, .int x1)] := hl
  unfold mX7_putNumber at hf
  refine lv_iconst (v := 1) hx hb (dc tbX7_putNumber_k 0 rfl) ic_1 ?_
  refine lv_istore_n (lv' := [(2, .int (1 : Int32)), (0, .ref (ad k0)), (1, .int x1)]) hx hb (dc tbX7_putNumber_k 1 rfl) rfl hl (by decide) rfl (fun ls hl => ?_)
  exact tX7_putNumber_l2 C hk0 5000 x1 (1 : Int32) M hf _ _ _ hI (lv_sub hl [1, 2, 0] rfl)
theorem cv_X7_putNumber : cvF RX7 yX7_putNumber cX7_putNumber 3 none 1 := ⟨q_t10_1, q_s7_6, q_t1_11, q_t10_2, by decide +kernel⟩
def mX7_putBend_b21 (k0 : Nat) (x1 : Int32) (y1 : Int32) (M : Mem) : Option (Mem × Unit) := cal (mX7_put k0 y1 M) (fun M5 _ => chk (okb (52 : Int32) 86) (cap (mX7_has (rd M5 (k0 + 1) ((52 : Int32)).toNatClampNeg) x1 M5) (fun r8 => ite2 (r8 = 0) (some (M5, ())) (cal (mX7_put k0 (42 : Int32) M5) (fun M13 _ => some (M13, ()))))))
set_option maxHeartbeats 4000000 in
set_option maxRecDepth 100000 in
theorem tX7_putBend_b21 {p : Program} {l : Launch} {e : Env} {s : State} {m : MethodId} {args : Array Value} {below : List Frame} {meth : Method} {c : Code} {G : GT} {kd : Nat → Nat × Nat} {ad : Nat → Nat} (C : Cx p s m args meth c cX7_putBend 2 none RX7 G kd ad) {k0 : Nat} (hk0 : kModel kd k0) {MO : Mem} {vo : Unit}   : ∀ (x1 : Int32) (y1 : Int32) (M : Mem), mX7_putBend_b21 k0 x1 y1 M = some (MO, vo) → At p l e (rmO 1 0 0) s m args below meth c 0 0 (MQ below (Qg G kd ad s.heap.size MO none) args s 0 0 (AS kd ad s.heap.size)) G kd ad 2 21 [(0, .ref (ad k0)), (1, .int x1)] [.int y1, .ref (ad k0)] M := by
  intro x1 y1 M hf H locs ls hI hl
  obtain ⟨hx, hb, hml, hr, hown, hts, hlk, hK, hap, hsx⟩ := id C
  unfold mX7_putBend_b21 at hf
  obtain ⟨M5, r4, q3, hf⟩ := cal_s hf
  refine g_callVv hx hb hml hown hts hK hap hsx hI (tX7_put l hk0 q3 H.size) cv_X7_put q_t10_3 rfl rfl ⟨Nat.le_of_ble_eq_true rfl, Nat.le_of_ble_eq_true rfl⟩ hk0.1 (by simp) rfl rfl rfl hl.1 rfl (Nat.le_of_ble_eq_true rfl) (dc tbX7_putBend_k 12 rfl) ⟨Nat.le_of_ble_eq_true rfl, Nat.le_of_ble_eq_true rfl⟩ (fun H locs hI => ?_)
  refine lv_aload_n hx hb (dc tbX7_putBend_k 13 rfl) rfl (lv_at hl 0 rfl) ?_
  refine gg7_0 hx hb hts hown hK hI hk0.1 q_t7_76 (dc tbX7_putBend_k 14 rfl) ?_
  refine lv_bipush (v := 52) hx hb (dc tbX7_putBend_k 15 rfl) bp_52 ?_
  obtain ⟨h6, hf⟩ := chk_s hf
  refine g_iald hx hb hK hI hk0.2.1 (okb_in h6) (dc tbX7_putBend_k 16 rfl) ?_
  refine lv_iload_n hx hb (dc tbX7_putBend_k 17 rfl) rfl (lv_at hl 1 rfl) ?_
  obtain ⟨r8, q7, hf⟩ := cap_s hf
  refine g_callSi hx hb hml hown hts hK hap hsx hI (tX7_has l  q7 H.size) cs_X7_has q_t8_226 rfl rfl ⟨Nat.le_of_ble_eq_true rfl, Nat.le_of_ble_eq_true rfl⟩ rfl hl.1 rfl (Nat.le_of_ble_eq_true rfl) (dc tbX7_putBend_k 18 rfl) ⟨Nat.le_of_ble_eq_true rfl, Nat.le_of_ble_eq_true rfl⟩ (fun H locs hI => ?_)
  refine lv_if_eq (tgt := 44) hx hb (dc tbX7_putBend_k 19 rfl) rfl (fun c10 => ?_) (fun c10 => ?_)
  · have hf := ite_t c10 hf
    cases hf
    exact g_vret hx hb hr hlk hI (dc tbX7_putBend_k 23 rfl)
  · have hf := ite_f c10 hf
    refine lv_aload_n hx hb (dc tbX7_putBend_k 20 rfl) rfl (lv_at hl 0 rfl) ?_
    refine lv_bipush (v := 42) hx hb (dc tbX7_putBend_k 21 rfl) bp_42 ?_
    obtain ⟨M13, r12, q11, hf⟩ := cal_s hf
    refine g_callVv hx hb hml hown hts hK hap hsx hI (tX7_put l hk0 q11 H.size) cv_X7_put q_t10_3 rfl rfl ⟨Nat.le_of_ble_eq_true rfl, Nat.le_of_ble_eq_true rfl⟩ hk0.1 (by simp) rfl rfl rfl hl.1 rfl (Nat.le_of_ble_eq_true rfl) (dc tbX7_putBend_k 22 rfl) ⟨Nat.le_of_ble_eq_true rfl, Nat.le_of_ble_eq_true rfl⟩ (fun H locs hI => ?_)
    cases hf
    exact g_vret hx hb hr hlk hI (dc tbX7_putBend_k 23 rfl)
def mX7_putBend (k0 : Nat) (x1 : Int32) (M : Mem) : Option (Mem × Unit) := chk (okb ((11 : Int32) + x1) 86) (ite2 ((rd M (k0 + 1) (((11 : Int32) + x1)).toNatClampNeg) = (1 : Int32)) (mX7_putBend_b21 k0 x1 (94 : Int32) M) (mX7_putBend_b21 k0 x1 (118 : Int32) M))
set_option maxHeartbeats 4000000 in
set_option maxRecDepth 100000 in
theorem tX7_putBend (l : Launch) {G : GT} {kd : Nat → Nat × Nat} {ad : Nat → Nat} {k0 : Nat} (hk0 : kModel kd k0) {x1 : Int32} {M : Mem} {MO : Mem} {vo : Unit} (hf : mX7_putBend k0 x1 M = some (MO, vo)) (n : Nat) : Met l yX7_putBend (Cond.code yX7_putBend cX7_putBend 2 none :: WA) (rmO 1 0 0) (Pg G kd ad n [.ref (ad k0), .int x1] M) (Qg G kd ad n MO none) 0 0 (AS kd ad n) := by
  refine g_body (own := RX7) (by decide) rfl ?_ (Nat.le_of_ble_eq_true rfl)
  intro p e s m args below meth c C _ H locs ls hI hl
  obtain ⟨hx, hb, hml, hr, hown, hts, hlk, hK, hap, hsx⟩ := id C
  have hl : lv_has ls 2 [(0, .ref (ad k0)), (1, .int x1)] := hl
  unfold mX7_putBend at hf
  refine lv_aload_n hx hb (dc tbX7_putBend_k 0 rfl) rfl (lv_at hl 0 rfl) ?_
  refine lv_aload_n hx hb (dc tbX7_putBend_k 1 rfl) rfl (lv_at hl 0 rfl) ?_
  refine gg7_0 hx hb hts hown hK hI hk0.1 q_t7_76 (dc tbX7_putBend_k 2 rfl) ?_
  refine lv_bipush (v := 11) hx hb (dc tbX7_putBend_k 3 rfl) bp_11 ?_
  refine lv_iload_n hx hb (dc tbX7_putBend_k 4 rfl) rfl (lv_at hl 1 rfl) ?_
  refine lv_iadd hx hb (dc tbX7_putBend_k 5 rfl) ?_
  obtain ⟨h1, hf⟩ := chk_s hf
  refine g_iald hx hb hK hI hk0.2.1 (okb_in h1) (dc tbX7_putBend_k 6 rfl) ?_
  refine lv_iconst (v := 1) hx hb (dc tbX7_putBend_k 7 rfl) ic_1 ?_
  refine lv_icmp_ne (tgt := 19) hx hb (dc tbX7_putBend_k 8 rfl) rfl (fun c2 => ?_) (fun c2 => ?_)
  · have hf := ite_f c2 hf
    refine lv_bipush (v := 118) hx hb (dc tbX7_putBend_k 11 rfl) bp_118 ?_
    exact tX7_putBend_b21 C hk0 x1 (118 : Int32) M hf _ _ _ hI (lv_sub hl [0, 1] rfl)
  · have hf := ite_t c2 hf
    refine lv_bipush (v := 94) hx hb (dc tbX7_putBend_k 9 rfl) bp_94 ?_
    refine lv_goto (tgt := 21) hx hb (dc tbX7_putBend_k 10 rfl) rfl ?_
    exact tX7_putBend_b21 C hk0 x1 (94 : Int32) M hf _ _ _ hI (lv_sub hl [0, 1] rfl)
theorem cv_X7_putBend : cvF RX7 yX7_putBend cX7_putBend 2 none 1 := ⟨q_t10_9, q_s7_8, q_t1_11, q_t10_10, by decide +kernel⟩
def mX7_putCost_b6 (k0 : Nat) (ih6 : Int32 → Mem → Option (Mem × Unit)) (x2 : Int32) (M : Mem) : Option (Mem × Unit) := cap (mJ0_length_8abf5 11 M) (fun r2 => ite2 (r2 ≤ x2) (cap (mX7_sumOfCosts k0 M) (fun r6 => cal (mX7_putNumber k0 r6 M) (fun M10 _ => some (M10, ())))) (cap (mJ0_charAt_5068e 11 x2 M) (fun r12 => cal (mX7_put k0 r12 M) (fun M16 _ => bnd (x2 + (1 : Int32)) (fun x2_23 => ih6 x2_23 M16)))))
set_option maxHeartbeats 4000000 in
set_option maxRecDepth 100000 in
theorem tX7_putCost_b6 {p : Program} {l : Launch} {e : Env} {s : State} {m : MethodId} {args : Array Value} {below : List Frame} {meth : Method} {c : Code} {G : GT} {kd : Nat → Nat × Nat} {ad : Nat → Nat} (C : Cx p s m args meth c cX7_putCost 3 none RX7 G kd ad) {k0 : Nat} (hk0 : kModel kd k0) {MO : Mem} {vo : Unit} {ih6 : Int32 → Mem → Option (Mem × Unit)} (hih6 : ∀ (x2 : Int32) (M : Mem), ih6 x2 M = some (MO, vo) → At p l e (rmO 4 0 0) s m args below meth c 0 0 (MQ below (Qg G kd ad s.heap.size MO none) args s 0 0 (AS kd ad s.heap.size)) G kd ad 3 6 [(0, .ref (ad k0)), (1, .ref (G.2.2 (100 + 11))), (2, .int x2)] [] M) : ∀ (x2 : Int32) (M : Mem), mX7_putCost_b6 k0 ih6 x2 M = some (MO, vo) → At p l e (rmO 4 0 0) s m args below meth c 0 0 (MQ below (Qg G kd ad s.heap.size MO none) args s 0 0 (AS kd ad s.heap.size)) G kd ad 3 6 [(0, .ref (ad k0)), (1, .ref (G.2.2 (100 + 11))), (2, .int x2)] [] M := by
  intro x2 M hf H locs ls hI hl
  obtain ⟨hx, hb, hml, hr, hown, hts, hlk, hK, hap, hsx⟩ := id C
  unfold mX7_putCost_b6 at hf
  refine lv_iload_n hx hb (dc tbX7_putCost_k 4 rfl) rfl (lv_at hl 2 rfl) ?_
  refine lv_aload_n hx hb (dc tbX7_putCost_k 5 rfl) rfl (lv_at hl 1 rfl) ?_
  obtain ⟨r2, q1, hf⟩ := cap_s hf
  refine g_callTi hx hb hml hown hts hK hap hsx hI (tJ0_length_8abf5 l (by decide) q1 H.size) cv_J0_length_8abf5 q_t7_216 rfl rfl ⟨Nat.le_of_ble_eq_true rfl, Nat.le_of_ble_eq_true rfl⟩ (by decide) rfl hl.1 rfl (Nat.le_of_ble_eq_true rfl) (dc tbX7_putCost_k 6 rfl) ⟨Nat.le_of_ble_eq_true rfl, Nat.le_of_ble_eq_true rfl⟩ (fun H locs hI => ?_)
  refine lv_icmp_ge (tgt := 29) hx hb (dc tbX7_putCost_k 7 rfl) rfl (fun c4 => ?_) (fun c4 => ?_)
  · have hf := ite_t c4 hf
    refine lv_aload_n hx hb (dc tbX7_putCost_k 15 rfl) rfl (lv_at hl 0 rfl) ?_
    refine lv_aload_n hx hb (dc tbX7_putCost_k 16 rfl) rfl (lv_at hl 0 rfl) ?_
    obtain ⟨r6, q5, hf⟩ := cap_s hf
    refine g_callVi hx hb hml hown hts hK hap hsx hI (tX7_sumOfCosts l hk0 q5 H.size) cv_X7_sumOfCosts q_t8_211 rfl rfl ⟨Nat.le_of_ble_eq_true rfl, Nat.le_of_ble_eq_true rfl⟩ hk0.1 (by simp) rfl rfl rfl hl.1 rfl (Nat.le_of_ble_eq_true rfl) (dc tbX7_putCost_k 17 rfl) ⟨Nat.le_of_ble_eq_true rfl, Nat.le_of_ble_eq_true rfl⟩ (fun H locs hI => ?_)
    obtain ⟨M10, r9, q8, hf⟩ := cal_s hf
    refine g_callVv hx hb hml hown hts hK hap hsx hI (tX7_putNumber l hk0 q8 H.size) cv_X7_putNumber q_t9_239 rfl rfl ⟨Nat.le_of_ble_eq_true rfl, Nat.le_of_ble_eq_true rfl⟩ hk0.1 (by simp) rfl rfl rfl hl.1 rfl (Nat.le_of_ble_eq_true rfl) (dc tbX7_putCost_k 18 rfl) ⟨Nat.le_of_ble_eq_true rfl, Nat.le_of_ble_eq_true rfl⟩ (fun H locs hI => ?_)
    cases hf
    exact g_vret hx hb hr hlk hI (dc tbX7_putCost_k 19 rfl)
  · have hf := ite_f c4 hf
    refine lv_aload_n hx hb (dc tbX7_putCost_k 8 rfl) rfl (lv_at hl 0 rfl) ?_
    refine lv_aload_n hx hb (dc tbX7_putCost_k 9 rfl) rfl (lv_at hl 1 rfl) ?_
    refine lv_iload_n hx hb (dc tbX7_putCost_k 10 rfl) rfl (lv_at hl 2 rfl) ?_
    obtain ⟨r12, q11, hf⟩ := cap_s hf
    refine g_callTi hx hb hml hown hts hK hap hsx hI (tJ0_charAt_5068e l (by decide) q11 H.size) cv_J0_charAt_5068e q_t7_217 rfl rfl ⟨Nat.le_of_ble_eq_true rfl, Nat.le_of_ble_eq_true rfl⟩ (by decide) rfl hl.1 rfl (Nat.le_of_ble_eq_true rfl) (dc tbX7_putCost_k 11 rfl) ⟨Nat.le_of_ble_eq_true rfl, Nat.le_of_ble_eq_true rfl⟩ (fun H locs hI => ?_)
    obtain ⟨M16, r15, q14, hf⟩ := cal_s hf
    refine g_callVv hx hb hml hown hts hK hap hsx hI (tX7_put l hk0 q14 H.size) cv_X7_put q_t10_3 rfl rfl ⟨Nat.le_of_ble_eq_true rfl, Nat.le_of_ble_eq_true rfl⟩ hk0.1 (by simp) rfl rfl rfl hl.1 rfl (Nat.le_of_ble_eq_true rfl) (dc tbX7_putCost_k 12 rfl) ⟨Nat.le_of_ble_eq_true rfl, Nat.le_of_ble_eq_true rfl⟩ (fun H locs hI => ?_)
    obtain ⟨x2_23, e17, hf⟩ := bnd_s hf
    refine lv_iinc (v := x2_23) (lv' := [(2, .int x2_23), (0, .ref (ad k0)), (1, .ref (G.2.2 (100 + 11)))]) hx hb (dc tbX7_putCost_k 13 rfl) hl (k := 2) rfl (ii_e e17 ic_1) (by decide) rfl (fun ls hl => ?_)
    refine lv_goto (tgt := 6) hx hb (dc tbX7_putCost_k 14 rfl) rfl ?_
    exact hih6 x2_23 M16 hf _ _ _ hI (lv_sub hl [1, 2, 0] rfl)
def mX7_putCost_l6 (k0 : Nat) : Nat → Int32 → Mem → Option (Mem × Unit)
  | 0 => fun _ _ => none
  | n + 1 => mX7_putCost_b6 k0 (mX7_putCost_l6 k0 n)
theorem tX7_putCost_l6 {p : Program} {l : Launch} {e : Env} {s : State} {m : MethodId} {args : Array Value} {below : List Frame} {meth : Method} {c : Code} {G : GT} {kd : Nat → Nat × Nat} {ad : Nat → Nat} (C : Cx p s m args meth c cX7_putCost 3 none RX7 G kd ad) {k0 : Nat} (hk0 : kModel kd k0) {MO : Mem} {vo : Unit}   : ∀ (fuel : Nat) (x2 : Int32) (M : Mem), mX7_putCost_l6 k0 fuel x2 M = some (MO, vo) → At p l e (rmO 4 0 0) s m args below meth c 0 0 (MQ below (Qg G kd ad s.heap.size MO none) args s 0 0 (AS kd ad s.heap.size)) G kd ad 3 6 [(0, .ref (ad k0)), (1, .ref (G.2.2 (100 + 11))), (2, .int x2)] [] M := by
  intro fuel
  induction fuel with
  | zero => intro x2 M hf; cases hf
  | succ n IH => exact tX7_putCost_b6 C hk0 IH
def mX7_putCost (k0 : Nat) (M : Mem) : Option (Mem × Unit) := mX7_putCost_l6 k0 5000 (0 : Int32) M
set_option maxHeartbeats 4000000 in
set_option maxRecDepth 100000 in
theorem tX7_putCost (l : Launch) {G : GT} {kd : Nat → Nat × Nat} {ad : Nat → Nat} {k0 : Nat} (hk0 : kModel kd k0) {M : Mem} {MO : Mem} {vo : Unit} (hf : mX7_putCost k0 M = some (MO, vo)) (n : Nat) : Met l yX7_putCost (Cond.code yX7_putCost cX7_putCost 3 none :: WA) (rmO 4 0 0) (Pg G kd ad n [.ref (ad k0)] M) (Qg G kd ad n MO none) 0 0 (AS kd ad n) := by
  refine g_body (own := RX7) (by decide) rfl ?_ (Nat.le_of_ble_eq_true rfl)
  intro p e s m args below meth c C _ H locs ls hI hl
  obtain ⟨hx, hb, hml, hr, hown, hts, hlk, hK, hap, hsx⟩ := id C
  have hl : lv_has ls 3 [(0, .ref (ad k0))] := hl
  unfold mX7_putCost at hf
  refine g_ldcwS (List.mem_of_getElem? (i := 12) rfl) hx hb hown hsx (dc tbX7_putCost_k 0 rfl) ?_
  refine lv_astore_n (lv' := [(1, .ref (G.2.2 (100 + 11))), (0, .ref (ad k0))]) hx hb (dc tbX7_putCost_k 1 rfl) rfl hl (by decide) rfl (fun ls hl => ?_)
  refine lv_iconst (v := 0) hx hb (dc tbX7_putCost_k 2 rfl) ic_0 ?_
  refine lv_istore_n (lv' := [(2, .int (0 : Int32)), (1, .ref (G.2.2 (100 + 11))), (0, .ref (ad k0))]) hx hb (dc tbX7_putCost_k 3 rfl) rfl hl (by decide) rfl (fun ls hl => ?_)
  exact tX7_putCost_l6 C hk0 5000 (0 : Int32) M hf _ _ _ hI (lv_sub hl [2, 1, 0] rfl)
theorem cv_X7_putCost : cvF RX7 yX7_putCost cX7_putCost 3 none 0 := ⟨q_t10_13, q_s7_9, q_t1_11, q_t10_14, by decide +kernel⟩
def mX7_write_b49 (k0 : Nat) (ih12 : Int32 → Mem → Option (Mem × Int32)) (x1 : Int32) (M : Mem) : Option (Mem × Int32) := bnd (x1 + (1 : Int32)) (fun x1_49 => ih12 x1_49 M)
set_option maxHeartbeats 4000000 in
set_option maxRecDepth 100000 in
theorem tX7_write_b49 {p : Program} {l : Launch} {e : Env} {s : State} {m : MethodId} {args : Array Value} {below : List Frame} {meth : Method} {c : Code} {G : GT} {kd : Nat → Nat × Nat} {ad : Nat → Nat} (C : Cx p s m args meth c cX7_write 2 (some .int) RX7 G kd ad) {k0 : Nat} (hk0 : kModel kd k0) {MO : Mem} {vo : Int32} {ih12 : Int32 → Mem → Option (Mem × Int32)} (hih12 : ∀ (x1 : Int32) (M : Mem), ih12 x1 M = some (MO, vo) → At p l e (rmO 5 0 0) s m args below meth c 0 0 (MQ below (Qg G kd ad s.heap.size MO (some (.int vo))) args s 0 0 (AS kd ad s.heap.size)) G kd ad 2 12 [(0, .ref (ad k0)), (1, .int x1)] [] M) : ∀ (x1 : Int32) (M : Mem), mX7_write_b49 k0 ih12 x1 M = some (MO, vo) → At p l e (rmO 5 0 0) s m args below meth c 0 0 (MQ below (Qg G kd ad s.heap.size MO (some (.int vo))) args s 0 0 (AS kd ad s.heap.size)) G kd ad 2 49 [(0, .ref (ad k0)), (1, .int x1)] [] M := by
  intro x1 M hf H locs ls hI hl
  obtain ⟨hx, hb, hml, hr, hown, hts, hlk, hK, hap, hsx⟩ := id C
  unfold mX7_write_b49 at hf
  obtain ⟨x1_49, e18, hf⟩ := bnd_s hf
  refine lv_iinc (v := x1_49) (lv' := [(1, .int x1_49), (0, .ref (ad k0))]) hx hb (dc tbX7_write_0_k 31 rfl) hl (k := 1) rfl (ii_e e18 ic_1) (by decide) rfl (fun ls hl => ?_)
  refine lv_goto (tgt := 12) hx hb (dc tbX7_write_0_k 32 rfl) rfl ?_
  exact hih12 x1_49 M hf _ _ _ hI (lv_sub hl [1, 0] rfl)
def mX7_write_b12 (k0 : Nat) (ih12 : Int32 → Mem → Option (Mem × Int32)) (x1 : Int32) (M : Mem) : Option (Mem × Int32) := chk (okb (1 : Int32) 86) (ite2 ((rd M (k0 + 1) ((1 : Int32)).toNatClampNeg) ≤ x1) (chk (okb (53 : Int32) 86) (ite2 ((rd M (k0 + 1) ((53 : Int32)).toNatClampNeg) ≤ 0) (some (M, (rd M k0 30))) (cal (mX7_putCost k0 M) (fun M11 _ => some (M11, (rd M11 k0 30)))))) (chk (okb ((2 : Int32) + x1) 86) (cal (mX7_putNumber k0 (rd M (k0 + 1) (((2 : Int32) + x1)).toNatClampNeg) M) (fun M15 _ => chk (okb (0 : Int32) 86) (ite2 ((rd M15 (k0 + 1) ((0 : Int32)).toNatClampNeg) ≤ x1) (mX7_write_b49 k0 ih12 x1 M15) (cal (mX7_putBend k0 x1 M15) (fun M21 _ => mX7_write_b49 k0 ih12 x1 M21)))))))
set_option maxHeartbeats 4000000 in
set_option maxRecDepth 100000 in
theorem tX7_write_b12 {p : Program} {l : Launch} {e : Env} {s : State} {m : MethodId} {args : Array Value} {below : List Frame} {meth : Method} {c : Code} {G : GT} {kd : Nat → Nat × Nat} {ad : Nat → Nat} (C : Cx p s m args meth c cX7_write 2 (some .int) RX7 G kd ad) {k0 : Nat} (hk0 : kModel kd k0) {MO : Mem} {vo : Int32} {ih12 : Int32 → Mem → Option (Mem × Int32)} (hih12 : ∀ (x1 : Int32) (M : Mem), ih12 x1 M = some (MO, vo) → At p l e (rmO 5 0 0) s m args below meth c 0 0 (MQ below (Qg G kd ad s.heap.size MO (some (.int vo))) args s 0 0 (AS kd ad s.heap.size)) G kd ad 2 12 [(0, .ref (ad k0)), (1, .int x1)] [] M) : ∀ (x1 : Int32) (M : Mem), mX7_write_b12 k0 ih12 x1 M = some (MO, vo) → At p l e (rmO 5 0 0) s m args below meth c 0 0 (MQ below (Qg G kd ad s.heap.size MO (some (.int vo))) args s 0 0 (AS kd ad s.heap.size)) G kd ad 2 12 [(0, .ref (ad k0)), (1, .int x1)] [] M := by
  intro x1 M hf H locs ls hI hl
  obtain ⟨hx, hb, hml, hr, hown, hts, hlk, hK, hap, hsx⟩ := id C
  unfold mX7_write_b12 at hf
  refine lv_iload_n hx hb (dc tbX7_write_0_k 8 rfl) rfl (lv_at hl 1 rfl) ?_
  refine lv_aload_n hx hb (dc tbX7_write_0_k 9 rfl) rfl (lv_at hl 0 rfl) ?_
  refine gg7_0 hx hb hts hown hK hI hk0.1 q_t7_76 (dc tbX7_write_0_k 10 rfl) ?_
  refine lv_iconst (v := 1) hx hb (dc tbX7_write_0_k 11 rfl) ic_1 ?_
  obtain ⟨h5, hf⟩ := chk_s hf
  refine g_iald hx hb hK hI hk0.2.1 (okb_in h5) (dc tbX7_write_0_k 12 rfl) ?_
  refine lv_icmp_ge (tgt := 55) hx hb (dc tbX7_write_0_k 13 rfl) rfl (fun c6 => ?_) (fun c6 => ?_)
  · have hf := ite_t c6 hf
    refine lv_aload_n hx hb (dc tbX7_write_0_k 33 rfl) rfl (lv_at hl 0 rfl) ?_
    refine gg7_0 hx hb hts hown hK hI hk0.1 q_t7_76 (dc tbX7_write_0_k 34 rfl) ?_
    refine lv_bipush (v := 53) hx hb (dc tbX7_write_0_k 35 rfl) bp_53 ?_
    obtain ⟨h7, hf⟩ := chk_s hf
    refine g_iald hx hb hK hI hk0.2.1 (okb_in h7) (dc tbX7_write_0_k 36 rfl) ?_
    refine lv_if_le (tgt := 69) hx hb (dc tbX7_write_0_k 37 rfl) rfl (fun c8 => ?_) (fun c8 => ?_)
    · have hf := ite_t c8 hf
      refine lv_aload_n hx hb (dc tbX7_write_1_k 0 rfl) rfl (lv_at hl 0 rfl) ?_
      refine gg7_30 hx hb hts hown hK hI hk0.1 q_t7_106 (dc tbX7_write_1_k 1 rfl) ?_
      cases hf
      exact g_iret hx hb hr hlk hI (dc tbX7_write_1_k 2 rfl)
    · have hf := ite_f c8 hf
      refine lv_aload_n hx hb (dc tbX7_write_0_k 38 rfl) rfl (lv_at hl 0 rfl) ?_
      obtain ⟨M11, r10, q9, hf⟩ := cal_s hf
      refine g_callVv hx hb hml hown hts hK hap hsx hI (tX7_putCost l hk0 q9 H.size) cv_X7_putCost q_t10_11 rfl rfl ⟨Nat.le_of_ble_eq_true rfl, Nat.le_of_ble_eq_true rfl⟩ hk0.1 (by simp) rfl rfl rfl hl.1 rfl (Nat.le_of_ble_eq_true rfl) (dc tbX7_write_0_k 39 rfl) ⟨Nat.le_of_ble_eq_true rfl, Nat.le_of_ble_eq_true rfl⟩ (fun H locs hI => ?_)
      refine lv_aload_n hx hb (dc tbX7_write_1_k 0 rfl) rfl (lv_at hl 0 rfl) ?_
      refine gg7_30 hx hb hts hown hK hI hk0.1 q_t7_106 (dc tbX7_write_1_k 1 rfl) ?_
      cases hf
      exact g_iret hx hb hr hlk hI (dc tbX7_write_1_k 2 rfl)
  · have hf := ite_f c6 hf
    refine lv_aload_n hx hb (dc tbX7_write_0_k 14 rfl) rfl (lv_at hl 0 rfl) ?_
    refine lv_aload_n hx hb (dc tbX7_write_0_k 15 rfl) rfl (lv_at hl 0 rfl) ?_
    refine gg7_0 hx hb hts hown hK hI hk0.1 q_t7_76 (dc tbX7_write_0_k 16 rfl) ?_
    refine lv_iconst (v := 2) hx hb (dc tbX7_write_0_k 17 rfl) ic_2 ?_
    refine lv_iload_n hx hb (dc tbX7_write_0_k 18 rfl) rfl (lv_at hl 1 rfl) ?_
    refine lv_iadd hx hb (dc tbX7_write_0_k 19 rfl) ?_
    obtain ⟨h12, hf⟩ := chk_s hf
    refine g_iald hx hb hK hI hk0.2.1 (okb_in h12) (dc tbX7_write_0_k 20 rfl) ?_
    obtain ⟨M15, r14, q13, hf⟩ := cal_s hf
    refine g_callVv hx hb hml hown hts hK hap hsx hI (tX7_putNumber l hk0 q13 H.size) cv_X7_putNumber q_t9_239 rfl rfl ⟨Nat.le_of_ble_eq_true rfl, Nat.le_of_ble_eq_true rfl⟩ hk0.1 (by simp) rfl rfl rfl hl.1 rfl (Nat.le_of_ble_eq_true rfl) (dc tbX7_write_0_k 21 rfl) ⟨Nat.le_of_ble_eq_true rfl, Nat.le_of_ble_eq_true rfl⟩ (fun H locs hI => ?_)
    refine lv_iload_n hx hb (dc tbX7_write_0_k 22 rfl) rfl (lv_at hl 1 rfl) ?_
    refine lv_aload_n hx hb (dc tbX7_write_0_k 23 rfl) rfl (lv_at hl 0 rfl) ?_
    refine gg7_0 hx hb hts hown hK hI hk0.1 q_t7_76 (dc tbX7_write_0_k 24 rfl) ?_
    refine lv_iconst (v := 0) hx hb (dc tbX7_write_0_k 25 rfl) ic_0 ?_
    obtain ⟨h16, hf⟩ := chk_s hf
    refine g_iald hx hb hK hI hk0.2.1 (okb_in h16) (dc tbX7_write_0_k 26 rfl) ?_
    refine lv_icmp_ge (tgt := 49) hx hb (dc tbX7_write_0_k 27 rfl) rfl (fun c17 => ?_) (fun c17 => ?_)
    · have hf := ite_t c17 hf
      exact tX7_write_b49 C hk0 hih12 x1 M15 hf _ _ _ hI (lv_sub hl [0, 1] rfl)
    · have hf := ite_f c17 hf
      refine lv_aload_n hx hb (dc tbX7_write_0_k 28 rfl) rfl (lv_at hl 0 rfl) ?_
      refine lv_iload_n hx hb (dc tbX7_write_0_k 29 rfl) rfl (lv_at hl 1 rfl) ?_
      obtain ⟨M21, r20, q19, hf⟩ := cal_s hf
      refine g_callVv hx hb hml hown hts hK hap hsx hI (tX7_putBend l hk0 q19 H.size) cv_X7_putBend q_t10_7 rfl rfl ⟨Nat.le_of_ble_eq_true rfl, Nat.le_of_ble_eq_true rfl⟩ hk0.1 (by simp) rfl rfl rfl hl.1 rfl (Nat.le_of_ble_eq_true rfl) (dc tbX7_write_0_k 30 rfl) ⟨Nat.le_of_ble_eq_true rfl, Nat.le_of_ble_eq_true rfl⟩ (fun H locs hI => ?_)
      exact tX7_write_b49 C hk0 hih12 x1 M21 hf _ _ _ hI (lv_sub hl [0, 1] rfl)
def mX7_write_l12 (k0 : Nat) : Nat → Int32 → Mem → Option (Mem × Int32)
  | 0 => fun _ _ => none
  | n + 1 => mX7_write_b12 k0 (mX7_write_l12 k0 n)
theorem tX7_write_l12 {p : Program} {l : Launch} {e : Env} {s : State} {m : MethodId} {args : Array Value} {below : List Frame} {meth : Method} {c : Code} {G : GT} {kd : Nat → Nat × Nat} {ad : Nat → Nat} (C : Cx p s m args meth c cX7_write 2 (some .int) RX7 G kd ad) {k0 : Nat} (hk0 : kModel kd k0) {MO : Mem} {vo : Int32}   : ∀ (fuel : Nat) (x1 : Int32) (M : Mem), mX7_write_l12 k0 fuel x1 M = some (MO, vo) → At p l e (rmO 5 0 0) s m args below meth c 0 0 (MQ below (Qg G kd ad s.heap.size MO (some (.int vo))) args s 0 0 (AS kd ad s.heap.size)) G kd ad 2 12 [(0, .ref (ad k0)), (1, .int x1)] [] M := by
  intro fuel
  induction fuel with
  | zero => intro x1 M hf; cases hf
  | succ n IH => exact tX7_write_b12 C hk0 IH
def mX7_write (k0 : Nat) (M : Mem) : Option (Mem × Int32) := bnd (wr M k0 5 (0 : Int32)) (fun M1 => bnd (wr M1 k0 30 (0 : Int32)) (fun M3 => mX7_write_l12 k0 5000 (0 : Int32) M3))
set_option maxHeartbeats 4000000 in
set_option maxRecDepth 100000 in
theorem tX7_write (l : Launch) {G : GT} {kd : Nat → Nat × Nat} {ad : Nat → Nat} {k0 : Nat} (hk0 : kModel kd k0) {M : Mem} {MO : Mem} {vo : Int32} (hf : mX7_write k0 M = some (MO, vo)) (n : Nat) : Met l yX7_write (Cond.code yX7_write cX7_write 2 (some .int) :: WA) (rmO 5 0 0) (Pg G kd ad n [.ref (ad k0)] M) (Qg G kd ad n MO (some (.int vo))) 0 0 (AS kd ad n) := by
  refine g_body (own := RX7) (by decide) rfl ?_ (Nat.le_of_ble_eq_true rfl)
  intro p e s m args below meth c C _ H locs ls hI hl
  obtain ⟨hx, hb, hml, hr, hown, hts, hlk, hK, hap, hsx⟩ := id C
  have hl : lv_has ls 2 [(0, .ref (ad k0))] := hl
  unfold mX7_write at hf
  refine lv_aload_n hx hb (dc tbX7_write_0_k 0 rfl) rfl (lv_at hl 0 rfl) ?_
  refine lv_iconst (v := 0) hx hb (dc tbX7_write_0_k 1 rfl) ic_0 ?_
  obtain ⟨M1, e2, hf⟩ := bnd_s hf
  refine gp7_5 hx hb hts hown hK hap hI hk0.1 q_t7_81 (dc tbX7_write_0_k 2 rfl) e2 (fun H locs hI => ?_)
  refine lv_aload_n hx hb (dc tbX7_write_0_k 3 rfl) rfl (lv_at hl 0 rfl) ?_
  refine lv_iconst (v := 0) hx hb (dc tbX7_write_0_k 4 rfl) ic_0 ?_
  obtain ⟨M3, e4, hf⟩ := bnd_s hf
  refine gp7_30 hx hb hts hown hK hap hI hk0.1 q_t7_106 (dc tbX7_write_0_k 5 rfl) e4 (fun H locs hI => ?_)
  refine lv_iconst (v := 0) hx hb (dc tbX7_write_0_k 6 rfl) ic_0 ?_
  refine lv_istore_n (lv' := [(1, .int (0 : Int32)), (0, .ref (ad k0))]) hx hb (dc tbX7_write_0_k 7 rfl) rfl hl (by decide) rfl (fun ls hl => ?_)
  exact tX7_write_l12 C hk0 5000 (0 : Int32) M3 hf _ _ _ hI (lv_sub hl [1, 0] rfl)
theorem cv_X7_write : cvF RX7 yX7_write cX7_write 2 (some .int) 0 := ⟨q_t9_236, q_t9_237, q_t1_11, q_t9_238, by decide +kernel⟩
def mX7_written (k0 : Nat) (x1 : Int32) (M : Mem) : Option (Mem × Int32) := cap (mX7_between (x1).toInt64 (0 : Int64) (((rd M k0 30) - (1 : Int32))).toInt64 M) (fun r2 => cal (mX7_good k0 r2 M) (fun M6 r5 => ite2 (r5 = 0) (some (M6, (0 : Int32))) (chk (okb x1 120) (chk (isC (((rd M6 (k0 + 16) (x1).toNatClampNeg)).toUInt32 % 65536).toInt32) (some (M6, (((rd M6 (k0 + 16) (x1).toNatClampNeg)).toUInt32 % 65536).toInt32))))))
set_option maxHeartbeats 4000000 in
set_option maxRecDepth 100000 in
theorem tX7_written (l : Launch) {G : GT} {kd : Nat → Nat × Nat} {ad : Nat → Nat} {k0 : Nat} (hk0 : kModel kd k0) {x1 : Int32} {M : Mem} {MO : Mem} {vo : Int32} (hf : mX7_written k0 x1 M = some (MO, vo)) (n : Nat) : Met l yX7_written (Cond.code yX7_written cX7_written 2 (some .char) :: WA) (rmO 1 0 0) (Pg G kd ad n [.ref (ad k0), .int x1] M) (Qg G kd ad n MO (some (.int vo))) 0 0 (AS kd ad n) := by
  refine g_body (own := RX7) (by decide) rfl ?_ (Nat.le_of_ble_eq_true rfl)
  intro p e s m args below meth c C _ H locs ls hI hl
  obtain ⟨hx, hb, hml, hr, hown, hts, hlk, hK, hap, hsx⟩ := id C
  have hl : lv_has ls 2 [(0, .ref (ad k0)), (1, .int x1)] := hl
  unfold mX7_written at hf
  refine lv_aload_n hx hb (dc tbX7_written_k 0 rfl) rfl (lv_at hl 0 rfl) ?_
  refine lv_iload_n hx hb (dc tbX7_written_k 1 rfl) rfl (lv_at hl 1 rfl) ?_
  refine lv_i2l hx hb (dc tbX7_written_k 2 rfl) rfl ?_
  refine lv_lconst (v := 0) hx hb (dc tbX7_written_k 3 rfl) (by decide) ?_
  refine lv_aload_n hx hb (dc tbX7_written_k 4 rfl) rfl (lv_at hl 0 rfl) ?_
  refine gg7_30 hx hb hts hown hK hI hk0.1 q_t7_106 (dc tbX7_written_k 5 rfl) ?_
  refine lv_iconst (v := 1) hx hb (dc tbX7_written_k 6 rfl) ic_1 ?_
  refine lv_isub hx hb (dc tbX7_written_k 7 rfl) ?_
  refine lv_i2l hx hb (dc tbX7_written_k 8 rfl) rfl ?_
  obtain ⟨r2, q1, hf⟩ := cap_s hf
  refine g_callSi hx hb hml hown hts hK hap hsx hI (tX7_between l  q1 H.size) cs_X7_between q_t7_190 rfl rfl ⟨Nat.le_of_ble_eq_true rfl, Nat.le_of_ble_eq_true rfl⟩ rfl hl.1 rfl (Nat.le_of_ble_eq_true rfl) (dc tbX7_written_k 9 rfl) ⟨Nat.le_of_ble_eq_true rfl, Nat.le_of_ble_eq_true rfl⟩ (fun H locs hI => ?_)
  obtain ⟨M6, r5, q4, hf⟩ := cal_s hf
  refine g_callVi hx hb hml hown hts hK hap hsx hI (tX7_good l hk0 q4 H.size) cv_X7_good q_t8_56 rfl rfl ⟨Nat.le_of_ble_eq_true rfl, Nat.le_of_ble_eq_true rfl⟩ hk0.1 (by simp) rfl rfl rfl hl.1 rfl (Nat.le_of_ble_eq_true rfl) (dc tbX7_written_k 10 rfl) ⟨Nat.le_of_ble_eq_true rfl, Nat.le_of_ble_eq_true rfl⟩ (fun H locs hI => ?_)
  refine lv_if_eq (tgt := 30) hx hb (dc tbX7_written_k 11 rfl) rfl (fun c7 => ?_) (fun c7 => ?_)
  · have hf := ite_t c7 hf
    refine lv_iconst (v := 0) hx hb (dc tbX7_written_k 18 rfl) ic_0 ?_
    cases hf
    exact g_zret hx hb hr hlk hI rfl (dc tbX7_written_k 19 rfl)
  · have hf := ite_f c7 hf
    refine lv_aload_n hx hb (dc tbX7_written_k 12 rfl) rfl (lv_at hl 0 rfl) ?_
    refine gg7_29 hx hb hts hown hK hI hk0.1 q_t7_105 (dc tbX7_written_k 13 rfl) ?_
    refine lv_iload_n hx hb (dc tbX7_written_k 14 rfl) rfl (lv_at hl 1 rfl) ?_
    obtain ⟨h8, hf⟩ := chk_s hf
    refine g_iald hx hb hK hI hk0.2.2.2.2.2.2.2.2.2.2.2.2.2.2.2.2 (okb_in h8) (dc tbX7_written_k 15 rfl) ?_
    refine lv_i2c hx hb (dc tbX7_written_k 16 rfl) rfl ?_
    refine lv_goto (tgt := 31) hx hb (dc tbX7_written_k 17 rfl) rfl ?_
    obtain ⟨h9, hf⟩ := chk_s hf
    cases hf
    exact g_zret hx hb hr hlk hI (isC_n h9) (dc tbX7_written_k 19 rfl)
theorem cv_X7_written : cvF RX7 yX7_written cX7_written 2 (some .char) 1 := ⟨q_t10_17, q_t10_18, q_t1_11, q_t10_19, by decide +kernel⟩
