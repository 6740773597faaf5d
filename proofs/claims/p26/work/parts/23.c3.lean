def mX3_forgetSteps_b2 (k0 : Nat) (ih2 : Int32 → Mem → Option (Mem × Unit)) (x1 : Int32) (M : Mem) : Option (Mem × Unit) := ite2 ((256 : Int32) ≤ x1) (some (M, ())) (chk (okb x1 256) (bnd (wr M (k0 + 17) (x1).toNatClampNeg (-1 : Int32)) (fun M4 => bnd (x1 + (1 : Int32)) (fun x1_16 => ih2 x1_16 M4))))
set_option maxHeartbeats 4000000 in
set_option maxRecDepth 100000 in
theorem tX3_forgetSteps_b2 {p : Program} {l : Launch} {e : Env} {s : State} {m : MethodId} {args : Array Value} {below : List Frame} {meth : Method} {c : Code} {G : GT} {kd : Nat → Nat × Nat} {ad : Nat → Nat} (C : Cx p s m args meth c cX3_forgetSteps 2 none RX3 G kd ad) {k0 : Nat} (hk0 : kPlanner kd k0) {MO : Mem} {vo : Unit} {ih2 : Int32 → Mem → Option (Mem × Unit)} (hih2 : ∀ (x1 : Int32) (M : Mem), ih2 x1 M = some (MO, vo) → At p l e (rmO 0 0 0) s m args below meth c 0 0 (MQ below (Qg G kd ad s.heap.size MO none) args s 0 0 (AS kd ad s.heap.size)) G kd ad 2 2 [(0, .ref (ad k0)), (1, .int x1)] [] M) : ∀ (x1 : Int32) (M : Mem), mX3_forgetSteps_b2 k0 ih2 x1 M = some (MO, vo) → At p l e (rmO 0 0 0) s m args below meth c 0 0 (MQ below (Qg G kd ad s.heap.size MO none) args s 0 0 (AS kd ad s.heap.size)) G kd ad 2 2 [(0, .ref (ad k0)), (1, .int x1)] [] M := by
  intro x1 M hf H locs ls hI hl
  obtain ⟨hx, hb, hml, hr, hown, hts, hlk, hK, hap, hsx⟩ := id C
  unfold mX3_forgetSteps_b2 at hf
  refine lv_iload_n hx hb (dc tbX3_forgetSteps_k 2 rfl) rfl (lv_at hl 1 rfl) ?_
  refine lv_sipush (v := 256) hx hb (dc tbX3_forgetSteps_k 3 rfl) sp_256 ?_
  refine lv_icmp_ge (tgt := 22) hx hb (dc tbX3_forgetSteps_k 4 rfl) rfl (fun c1 => ?_) (fun c1 => ?_)
  · have hf := ite_t c1 hf
    cases hf
    exact g_vret hx hb hr hlk hI (dc tbX3_forgetSteps_k 12 rfl)
  · have hf := ite_f c1 hf
    refine lv_aload_n hx hb (dc tbX3_forgetSteps_k 5 rfl) rfl (lv_at hl 0 rfl) ?_
    refine gg3_7 hx hb hts hown hK hI hk0.1 q_t2_15 (dc tbX3_forgetSteps_k 6 rfl) ?_
    refine lv_iload_n hx hb (dc tbX3_forgetSteps_k 7 rfl) rfl (lv_at hl 1 rfl) ?_
    refine lv_iconst (v := -1) hx hb (dc tbX3_forgetSteps_k 8 rfl) ic_m1 ?_
    obtain ⟨h2, hf⟩ := chk_s hf
    obtain ⟨M4, e3, hf⟩ := bnd_s hf
    refine g_iast hx hb hK hap hI hk0.2.2.2.2.1 (okb_in h2) (dc tbX3_forgetSteps_k 9 rfl) e3 (fun H locs hI => ?_)
    obtain ⟨x1_16, e5, hf⟩ := bnd_s hf
    refine lv_iinc (v := x1_16) (lv' := [(1, .int x1_16), (0, .ref (ad k0))]) hx hb (dc tbX3_forgetSteps_k 10 rfl) hl (k := 1) rfl (ii_e e5 ic_1) (by decide) rfl (fun ls hl => ?_)
    refine lv_goto (tgt := 2) hx hb (dc tbX3_forgetSteps_k 11 rfl) rfl ?_
    exact hih2 x1_16 M4 hf _ _ _ hI (lv_sub hl [1, 0] rfl)
def mX3_forgetSteps_l2 (k0 : Nat) : Nat → Int32 → Mem → Option (Mem × Unit)
  | 0 => fun _ _ => none
  | n + 1 => mX3_forgetSteps_b2 k0 (mX3_forgetSteps_l2 k0 n)
theorem tX3_forgetSteps_l2 {p : Program} {l : Launch} {e : Env} {s : State} {m : MethodId} {args : Array Value} {below : List Frame} {meth : Method} {c : Code} {G : GT} {kd : Nat → Nat × Nat} {ad : Nat → Nat} (C : Cx p s m args meth c cX3_forgetSteps 2 none RX3 G kd ad) {k0 : Nat} (hk0 : kPlanner kd k0) {MO : Mem} {vo : Unit}   : ∀ (fuel : Nat) (x1 : Int32) (M : Mem), mX3_forgetSteps_l2 k0 fuel x1 M = some (MO, vo) → At p l e (rmO 0 0 0) s m args below meth c 0 0 (MQ below (Qg G kd ad s.heap.size MO none) args s 0 0 (AS kd ad s.heap.size)) G kd ad 2 2 [(0, .ref (ad k0)), (1, .int x1)] [] M := by
  intro fuel
  induction fuel with
  | zero => intro x1 M hf; cases hf
  | succ n IH => exact tX3_forgetSteps_b2 C hk0 IH
def mX3_forgetSteps (k0 : Nat) (M : Mem) : Option (Mem × Unit) := mX3_forgetSteps_l2 k0 5000 (0 : Int32) M
set_option maxHeartbeats 4000000 in
set_option maxRecDepth 100000 in
theorem tX3_forgetSteps (l : Launch) {G : GT} {kd : Nat → Nat × Nat} {ad : Nat → Nat} {k0 : Nat} (hk0 : kPlanner kd k0) {M : Mem} {MO : Mem} {vo : Unit} (hf : mX3_forgetSteps k0 M = some (MO, vo)) (n : Nat) : Met l yX3_forgetSteps (Cond.code yX3_forgetSteps cX3_forgetSteps 2 none :: WA) (rmO 0 0 0) (Pg G kd ad n [.ref (ad k0)] M) (Qg G kd ad n MO none) 0 0 (AS kd ad n) := by
  refine g_body (own := RX3) (by decide) rfl ?_ (Nat.le_of_ble_eq_true rfl)
  intro p e s m args below meth c C _ H locs ls hI hl
  obtain ⟨hx, hb, hml, hr, hown, hts, hlk, hK, hap, hsx⟩ := id C
  have hl : lv_has ls 2 [(0, .ref (ad k0))] := hl
  unfold mX3_forgetSteps at hf
  refine lv_iconst (v := 0) hx hb (dc tbX3_forgetSteps_k 0 rfl) ic_0 ?_
  refine lv_istore_n (lv' := [(1, .int (0 : Int32)), (0, .ref (ad k0))]) hx hb (dc tbX3_forgetSteps_k 1 rfl) rfl hl (by decide) rfl (fun ls hl => ?_)
  exact tX3_forgetSteps_l2 C hk0 5000 (0 : Int32) M hf _ _ _ hI (lv_sub hl [1, 0] rfl)
theorem cv_X3_forgetSteps : cvF RX3 yX3_forgetSteps cX3_forgetSteps 2 none 0 := ⟨q_t2_2, q_s1_0, q_t1_6, q_t2_3, by decide +kernel⟩
def mX3_findSteps_b63 (k0 : Nat) (k1 : Nat) (ih5 : Int32 → Int32 → Int32 → Mem → Option (Mem × Int32)) (x2 : Int32) (x3 : Int32) (x4 : Int32) (M : Mem) : Option (Mem × Int32) := bnd (x4 + (1 : Int32)) (fun x4_63 => ih5 x2 x3 x4_63 M)
set_option maxHeartbeats 4000000 in
set_option maxRecDepth 100000 in
theorem tX3_findSteps_b63 {p : Program} {l : Launch} {e : Env} {s : State} {m : MethodId} {args : Array Value} {below : List Frame} {meth : Method} {c : Code} {G : GT} {kd : Nat → Nat × Nat} {ad : Nat → Nat} (C : Cx p s m args meth c cX3_findSteps 5 (some .int) RX3 G kd ad) {k0 : Nat} {k1 : Nat} (hk0 : kPlanner kd k0) (hk1 : kPart kd k1) {MO : Mem} {vo : Int32} {ih5 : Int32 → Int32 → Int32 → Mem → Option (Mem × Int32)} (hih5 : ∀ (x2 : Int32) (x3 : Int32) (x4 : Int32) (M : Mem), ih5 x2 x3 x4 M = some (MO, vo) → At p l e (rmO 3 0 0) s m args below meth c 0 0 (MQ below (Qg G kd ad s.heap.size MO (some (.int vo))) args s 0 0 (AS kd ad s.heap.size)) G kd ad 5 5 [(0, .ref (ad k0)), (1, .ref (ad k1)), (2, .int x2), (3, .int x3), (4, .int x4)] [] M) : ∀ (x2 : Int32) (x3 : Int32) (x4 : Int32) (M : Mem), mX3_findSteps_b63 k0 k1 ih5 x2 x3 x4 M = some (MO, vo) → At p l e (rmO 3 0 0) s m args below meth c 0 0 (MQ below (Qg G kd ad s.heap.size MO (some (.int vo))) args s 0 0 (AS kd ad s.heap.size)) G kd ad 5 63 [(0, .ref (ad k0)), (1, .ref (ad k1)), (2, .int x2), (3, .int x3), (4, .int x4)] [] M := by
  intro x2 x3 x4 M hf H locs ls hI hl
  obtain ⟨hx, hb, hml, hr, hown, hts, hlk, hK, hap, hsx⟩ := id C
  unfold mX3_findSteps_b63 at hf
  obtain ⟨x4_63, e10, hf⟩ := bnd_s hf
  refine lv_iinc (v := x4_63) (lv' := [(4, .int x4_63), (0, .ref (ad k0)), (1, .ref (ad k1)), (2, .int x2), (3, .int x3)]) hx hb (dc tbX3_findSteps_0_k 37 rfl) hl (k := 4) rfl (ii_e e10 ic_1) (by decide) rfl (fun ls hl => ?_)
  refine lv_goto (tgt := 5) hx hb (dc tbX3_findSteps_0_k 38 rfl) rfl ?_
  exact hih5 x2 x3 x4_63 M hf _ _ _ hI (lv_sub hl [1, 2, 3, 4, 0] rfl)
def mX3_findSteps_b5 (k0 : Nat) (k1 : Nat) (ih5 : Int32 → Int32 → Int32 → Mem → Option (Mem × Int32)) (x2 : Int32) (x3 : Int32) (x4 : Int32) (M : Mem) : Option (Mem × Int32) := cap (mX1_bendCount k1 M) (fun r2 => ite2 (((2 : Int32) * r2) ≤ x4) (some (M, x3)) (ite2 ((16 : Int32) ≤ x4) (some (M, x3)) (cal (mX2_reasonFor (k0 + 2) k1 x2 x4 M) (fun M8 r7 => ite2 (r7 = 0) (bnd ((x3 ||| ((1 : Int32) <<< (x4 &&& 31)))) (fun x3_43 => cap (mX2_reachToBack (k0 + 2) M8) (fun r13 => chk (okb ((x2 * (16 : Int32)) + x4) 4096) (bnd (wr M8 (k0 + 20) (((x2 * (16 : Int32)) + x4)).toNatClampNeg r13) (fun M17 => mX3_findSteps_b63 k0 k1 ih5 x2 x3_43 x4 M17))))) (mX3_findSteps_b63 k0 k1 ih5 x2 x3 x4 M8)))))
set_option maxHeartbeats 4000000 in
set_option maxRecDepth 100000 in
theorem tX3_findSteps_b5 {p : Program} {l : Launch} {e : Env} {s : State} {m : MethodId} {args : Array Value} {below : List Frame} {meth : Method} {c : Code} {G : GT} {kd : Nat → Nat × Nat} {ad : Nat → Nat} (C : Cx p s m args meth c cX3_findSteps 5 (some .int) RX3 G kd ad) {k0 : Nat} {k1 : Nat} (hk0 : kPlanner kd k0) (hk1 : kPart kd k1) {MO : Mem} {vo : Int32} {ih5 : Int32 → Int32 → Int32 → Mem → Option (Mem × Int32)} (hih5 : ∀ (x2 : Int32) (x3 : Int32) (x4 : Int32) (M : Mem), ih5 x2 x3 x4 M = some (MO, vo) → At p l e (rmO 3 0 0) s m args below meth c 0 0 (MQ below (Qg G kd ad s.heap.size MO (some (.int vo))) args s 0 0 (AS kd ad s.heap.size)) G kd ad 5 5 [(0, .ref (ad k0)), (1, .ref (ad k1)), (2, .int x2), (3, .int x3), (4, .int x4)] [] M) : ∀ (x2 : Int32) (x3 : Int32) (x4 : Int32) (M : Mem), mX3_findSteps_b5 k0 k1 ih5 x2 x3 x4 M = some (MO, vo) → At p l e (rmO 3 0 0) s m args below meth c 0 0 (MQ below (Qg G kd ad s.heap.size MO (some (.int vo))) args s 0 0 (AS kd ad s.heap.size)) G kd ad 5 5 [(0, .ref (ad k0)), (1, .ref (ad k1)), (2, .int x2), (3, .int x3), (4, .int x4)] [] M := by
  intro x2 x3 x4 M hf H locs ls hI hl
  obtain ⟨hx, hb, hml, hr, hown, hts, hlk, hK, hap, hsx⟩ := id C
  unfold mX3_findSteps_b5 at hf
  refine lv_iload hx hb (dc tbX3_findSteps_0_k 4 rfl) (lv_at hl 4 rfl) ?_
  refine lv_iconst (v := 2) hx hb (dc tbX3_findSteps_0_k 5 rfl) ic_2 ?_
  refine lv_aload_n hx hb (dc tbX3_findSteps_0_k 6 rfl) rfl (lv_at hl 1 rfl) ?_
  obtain ⟨r2, q1, hf⟩ := cap_s hf
  refine g_callVi hx hb hml hown hts hK hap hsx hI (tX1_bendCount l hk1 q1 H.size) cv_X1_bendCount q_t3_94 rfl rfl ⟨Nat.le_of_ble_eq_true rfl, Nat.le_of_ble_eq_true rfl⟩ hk1.1 (by simp) rfl rfl rfl hl.1 rfl (Nat.le_of_ble_eq_true rfl) (dc tbX3_findSteps_0_k 7 rfl) ⟨Nat.le_of_ble_eq_true rfl, Nat.le_of_ble_eq_true rfl⟩ (fun H locs hI => ?_)
  refine lv_imul hx hb (dc tbX3_findSteps_0_k 8 rfl) ?_
  refine lv_icmp_ge (tgt := 69) hx hb (dc tbX3_findSteps_0_k 9 rfl) rfl (fun c4 => ?_) (fun c4 => ?_)
  · have hf := ite_t c4 hf
    refine lv_iload_n hx hb (dc tbX3_findSteps_0_k 39 rfl) rfl (lv_at hl 3 rfl) ?_
    cases hf
    exact g_iret hx hb hr hlk hI (dc tbX3_findSteps_1_k 0 rfl)
  · have hf := ite_f c4 hf
    refine lv_iload hx hb (dc tbX3_findSteps_0_k 10 rfl) (lv_at hl 4 rfl) ?_
    refine lv_bipush (v := 16) hx hb (dc tbX3_findSteps_0_k 11 rfl) bp_16 ?_
    refine lv_icmp_ge (tgt := 69) hx hb (dc tbX3_findSteps_0_k 12 rfl) rfl (fun c5 => ?_) (fun c5 => ?_)
    · have hf := ite_t c5 hf
      refine lv_iload_n hx hb (dc tbX3_findSteps_0_k 39 rfl) rfl (lv_at hl 3 rfl) ?_
      cases hf
      exact g_iret hx hb hr hlk hI (dc tbX3_findSteps_1_k 0 rfl)
    · have hf := ite_f c5 hf
      refine lv_aload_n hx hb (dc tbX3_findSteps_0_k 13 rfl) rfl (lv_at hl 0 rfl) ?_
      refine gg3_4 hx hb hts hown hK hI hk0.1 q_t2_12 (dc tbX3_findSteps_0_k 14 rfl) ?_
      refine lv_aload_n hx hb (dc tbX3_findSteps_0_k 15 rfl) rfl (lv_at hl 1 rfl) ?_
      refine lv_iload_n hx hb (dc tbX3_findSteps_0_k 16 rfl) rfl (lv_at hl 2 rfl) ?_
      refine lv_iload hx hb (dc tbX3_findSteps_0_k 17 rfl) (lv_at hl 4 rfl) ?_
      obtain ⟨M8, r7, q6, hf⟩ := cal_s hf
      refine g_callVi hx hb hml hown hts hK hap hsx hI (tX2_reasonFor l hk0.2.2.1 hk1 q6 H.size) cv_X2_reasonFor q_t3_95 rfl rfl ⟨Nat.le_of_ble_eq_true rfl, Nat.le_of_ble_eq_true rfl⟩ hk0.2.2.1.1 (by simp) rfl rfl rfl hl.1 rfl (Nat.le_of_ble_eq_true rfl) (dc tbX3_findSteps_0_k 18 rfl) ⟨Nat.le_of_ble_eq_true rfl, Nat.le_of_ble_eq_true rfl⟩ (fun H locs hI => ?_)
      refine lv_if_ne (tgt := 63) hx hb (dc tbX3_findSteps_0_k 19 rfl) rfl (fun c9 => ?_) (fun c9 => ?_)
      · have hf := ite_f c9 hf
        exact tX3_findSteps_b63 C hk0 hk1 hih5 x2 x3 x4 M8 hf _ _ _ hI (lv_sub hl [0, 1, 2, 3, 4] rfl)
      · have hf := ite_t c9 hf
        refine lv_iload_n hx hb (dc tbX3_findSteps_0_k 20 rfl) rfl (lv_at hl 3 rfl) ?_
        refine lv_iconst (v := 1) hx hb (dc tbX3_findSteps_0_k 21 rfl) ic_1 ?_
        refine lv_iload hx hb (dc tbX3_findSteps_0_k 22 rfl) (lv_at hl 4 rfl) ?_
        refine lv_ishl hx hb (dc tbX3_findSteps_0_k 23 rfl) ?_
        refine lv_ior hx hb (dc tbX3_findSteps_0_k 24 rfl) ?_
        obtain ⟨x3_43, e11, hf⟩ := bnd_s hf
        refine lv_ei e11 ?_
        refine lv_istore_n (lv' := [(3, .int x3_43), (0, .ref (ad k0)), (1, .ref (ad k1)), (2, .int x2), (4, .int x4)]) hx hb (dc tbX3_findSteps_0_k 25 rfl) rfl hl (by decide) rfl (fun ls hl => ?_)
        refine lv_aload_n hx hb (dc tbX3_findSteps_0_k 26 rfl) rfl (lv_at hl 1 rfl) ?_
        refine gg3_10 hx hb hts hown hK hI hk0.1 q_t2_18 (dc tbX3_findSteps_0_k 27 rfl) ?_
        refine lv_iload_n hx hb (dc tbX3_findSteps_0_k 28 rfl) rfl (lv_at hl 3 rfl) ?_
        refine lv_bipush (v := 16) hx hb (dc tbX3_findSteps_0_k 29 rfl) bp_16 ?_
        refine lv_imul hx hb (dc tbX3_findSteps_0_k 30 rfl) ?_
        refine lv_iload hx hb (dc tbX3_findSteps_0_k 31 rfl) (lv_at hl 4 rfl) ?_
        refine lv_iadd hx hb (dc tbX3_findSteps_0_k 32 rfl) ?_
        refine lv_aload_n hx hb (dc tbX3_findSteps_0_k 33 rfl) rfl (lv_at hl 1 rfl) ?_
        refine gg3_4 hx hb hts hown hK hI hk0.1 q_t2_12 (dc tbX3_findSteps_0_k 34 rfl) ?_
        obtain ⟨r13, q12, hf⟩ := cap_s hf
        refine g_callVi hx hb hml hown hts hK hap hsx hI (tX2_reachToBack l hk0.2.2.1 q12 H.size) cv_X2_reachToBack q_t3_96 rfl rfl ⟨Nat.le_of_ble_eq_true rfl, Nat.le_of_ble_eq_true rfl⟩ hk0.2.2.1.1 (by simp) rfl rfl rfl hl.1 rfl (Nat.le_of_ble_eq_true rfl) (dc tbX3_findSteps_0_k 35 rfl) ⟨Nat.le_of_ble_eq_true rfl, Nat.le_of_ble_eq_true rfl⟩ (fun H locs hI => ?_)
        obtain ⟨h15, hf⟩ := chk_s hf
        obtain ⟨M17, e16, hf⟩ := bnd_s hf
        refine g_iast hx hb hK hap hI hk0.2.2.2.2.2.2.2.1 (okb_in h15) (dc tbX3_findSteps_0_k 36 rfl) e16 (fun H locs hI => ?_)
        exact tX3_findSteps_b63 C hk0 hk1 hih5 x2 x3_43 x4 M17 hf _ _ _ hI (lv_sub hl [1, 2, 3, 0, 4] rfl)
def mX3_findSteps_l5 (k0 : Nat) (k1 : Nat) : Nat → Int32 → Int32 → Int32 → Mem → Option (Mem × Int32)
  | 0 => fun _ _ _ _ => none
  | n + 1 => mX3_findSteps_b5 k0 k1 (mX3_findSteps_l5 k0 k1 n)
theorem tX3_findSteps_l5 {p : Program} {l : Launch} {e : Env} {s : State} {m : MethodId} {args : Array Value} {below : List Frame} {meth : Method} {c : Code} {G : GT} {kd : Nat → Nat × Nat} {ad : Nat → Nat} (C : Cx p s m args meth c cX3_findSteps 5 (some .int) RX3 G kd ad) {k0 : Nat} {k1 : Nat} (hk0 : kPlanner kd k0) (hk1 : kPart kd k1) {MO : Mem} {vo : Int32}   : ∀ (fuel : Nat) (x2 : Int32) (x3 : Int32) (x4 : Int32) (M : Mem), mX3_findSteps_l5 k0 k1 fuel x2 x3 x4 M = some (MO, vo) → At p l e (rmO 3 0 0) s m args below meth c 0 0 (MQ below (Qg G kd ad s.heap.size MO (some (.int vo))) args s 0 0 (AS kd ad s.heap.size)) G kd ad 5 5 [(0, .ref (ad k0)), (1, .ref (ad k1)), (2, .int x2), (3, .int x3), (4, .int x4)] [] M := by
  intro fuel
  induction fuel with
  | zero => intro x2 x3 x4 M hf; cases hf
  | succ n IH => exact tX3_findSteps_b5 C hk0 hk1 IH
def mX3_findSteps (k0 : Nat) (k1 : Nat) (x2 : Int32) (M : Mem) : Option (Mem × Int32) := mX3_findSteps_l5 k0 k1 5000 x2 (0 : Int32) (0 : Int32) M
set_option maxHeartbeats 4000000 in
set_option maxRecDepth 100000 in
theorem tX3_findSteps (l : Launch) {G : GT} {kd : Nat → Nat × Nat} {ad : Nat → Nat} {k0 : Nat} {k1 : Nat} (hk0 : kPlanner kd k0) (hk1 : kPart kd k1) {x2 : Int32} {M : Mem} {MO : Mem} {vo : Int32} (hf : mX3_findSteps k0 k1 x2 M = some (MO, vo)) (n : Nat) : Met l yX3_findSteps (Cond.code yX3_findSteps cX3_findSteps 5 (some .int) :: WA) (rmO 3 0 0) (Pg G kd ad n [.ref (ad k0), .ref (ad k1), .int x2] M) (Qg G kd ad n MO (some (.int vo))) 0 0 (AS kd ad n) := by
  refine g_body (own := RX3) (by decide) rfl ?_ (Nat.le_of_ble_eq_true rfl)
  intro p e s m args below meth c C _ H locs ls hI hl
  obtain ⟨hx, hb, hml, hr, hown, hts, hlk, hK, hap, hsx⟩ := id C
  have hl : lv_has ls 5 [(0, .ref (ad k0)), (1, .ref (ad k1)), (2, .int x2)] := hl
  unfold mX3_findSteps at hf
  refine lv_iconst (v := 0) hx hb (dc tbX3_findSteps_0_k 0 rfl) ic_0 ?_
  refine lv_istore_n (lv' := [(3, .int (0 : Int32)), (0, .ref (ad k0)), (1, .ref (ad k1)), (2, .int x2)]) hx hb (dc tbX3_findSteps_0_k 1 rfl) rfl hl (by decide) rfl (fun ls hl => ?_)
  refine lv_iconst (v := 0) hx hb (dc tbX3_findSteps_0_k 2 rfl) ic_0 ?_
  refine lv_istore (lv' := [(4, .int (0 : Int32)), (3, .int (0 : Int32)), (0, .ref (ad k0)), (1, .ref (ad k1)), (2, .int x2)]) hx hb (dc tbX3_findSteps_0_k 3 rfl) hl (by decide) rfl (fun ls hl => ?_)
  exact tX3_findSteps_l5 C hk0 hk1 5000 x2 (0 : Int32) (0 : Int32) M hf _ _ _ hI (lv_sub hl [2, 3, 4, 1, 0] rfl)
theorem cv_X3_findSteps : cvF RX3 yX3_findSteps cX3_findSteps 5 (some .int) 2 := ⟨q_t3_92, q_s1_8, q_t1_6, q_t3_93, by decide +kernel⟩
def mX3_isOpen (k0 : Nat) (x1 : Int32) (x2 : Int32) (M : Mem) : Option Int32 := chk (okb x1 256) (ite2 ((((rd M (k0 + 17) (x1).toNatClampNeg) >>> (x2 &&& 31)) &&& (1 : Int32)) = 0) (some (0 : Int32)) (some (1 : Int32)))
set_option maxHeartbeats 4000000 in
set_option maxRecDepth 100000 in
theorem tX3_isOpen (l : Launch) {G : GT} {kd : Nat → Nat × Nat} {ad : Nat → Nat} {k0 : Nat} (hk0 : kPlanner kd k0) {x1 : Int32} {x2 : Int32} {M : Mem} {vo : Int32} (hf : mX3_isOpen k0 x1 x2 M = some vo) (n : Nat) : Met l yX3_isOpen (Cond.code yX3_isOpen cX3_isOpen 3 (some .boolean) :: WA) (rmO 0 0 0) (Pg G kd ad n [.ref (ad k0), .int x1, .int x2] M) (Qg G kd ad n M (some (.int vo))) 0 0 (AS kd ad n) := by
  refine g_body (own := RX3) (by decide) rfl ?_ (Nat.le_of_ble_eq_true rfl)
  intro p e s m args below meth c C _ H locs ls hI hl
  obtain ⟨hx, hb, hml, hr, hown, hts, hlk, hK, hap, hsx⟩ := id C
  have hl : lv_has ls 3 [(0, .ref (ad k0)), (1, .int x1), (2, .int x2)] := hl
  unfold mX3_isOpen at hf
  refine lv_aload_n hx hb (dc tbX3_isOpen_k 0 rfl) rfl (lv_at hl 0 rfl) ?_
  refine gg3_7 hx hb hts hown hK hI hk0.1 q_t2_15 (dc tbX3_isOpen_k 1 rfl) ?_
  refine lv_iload_n hx hb (dc tbX3_isOpen_k 2 rfl) rfl (lv_at hl 1 rfl) ?_
  obtain ⟨h1, hf⟩ := chk_s hf
  refine g_iald hx hb hK hI hk0.2.2.2.2.1 (okb_in h1) (dc tbX3_isOpen_k 3 rfl) ?_
  refine lv_iload_n hx hb (dc tbX3_isOpen_k 4 rfl) rfl (lv_at hl 2 rfl) ?_
  refine lv_ishr hx hb (dc tbX3_isOpen_k 5 rfl) ?_
  refine lv_iconst (v := 1) hx hb (dc tbX3_isOpen_k 6 rfl) ic_1 ?_
  refine lv_iand hx hb (dc tbX3_isOpen_k 7 rfl) ?_
  refine lv_if_eq (tgt := 17) hx hb (dc tbX3_isOpen_k 8 rfl) rfl (fun c2 => ?_) (fun c2 => ?_)
  · have hf := ite_t c2 hf
    refine lv_iconst (v := 0) hx hb (dc tbX3_isOpen_k 11 rfl) ic_0 ?_
    cases hf
    exact g_zret hx hb hr hlk hI rfl (dc tbX3_isOpen_k 12 rfl)
  · have hf := ite_f c2 hf
    refine lv_iconst (v := 1) hx hb (dc tbX3_isOpen_k 9 rfl) ic_1 ?_
    refine lv_goto (tgt := 18) hx hb (dc tbX3_isOpen_k 10 rfl) rfl ?_
    cases hf
    exact g_zret hx hb hr hlk hI rfl (dc tbX3_isOpen_k 12 rfl)
theorem cv_X3_isOpen : cvF RX3 yX3_isOpen cX3_isOpen 3 (some .boolean) 2 := ⟨q_t3_99, q_s1_9, q_t1_6, q_t3_100, by decide +kernel⟩
def mX3_setBehind (x0 : Int32) (x1 : Int32) (M : Mem) : Option Int32 := some (x0 ||| ((1 : Int32) <<< ((x1 >>> ((1 : Int32) &&& 31)) &&& 31)))
set_option maxHeartbeats 4000000 in
set_option maxRecDepth 100000 in
theorem tX3_setBehind (l : Launch) {G : GT} {kd : Nat → Nat × Nat} {ad : Nat → Nat}  {x0 : Int32} {x1 : Int32} {M : Mem} {vo : Int32} (hf : mX3_setBehind  x0 x1 M = some vo) (n : Nat) : Met l yX3_setBehind (Cond.code yX3_setBehind cX3_setBehind 2 (some .int) :: WA) (rmO 0 0 0) (Pg G kd ad n [.int x0, .int x1] M) (Qg G kd ad n M (some (.int vo))) 0 0 (AS kd ad n) := by
  refine g_body (own := RX3) (by decide) rfl ?_ (Nat.le_of_ble_eq_true rfl)
  intro p e s m args below meth c C _ H locs ls hI hl
  obtain ⟨hx, hb, hml, hr, hown, hts, hlk, hK, hap, hsx⟩ := id C
  have hl : lv_has ls 2 [(0, .int x0), (1, .int x1)] := hl
  unfold mX3_setBehind at hf
  refine lv_iload_n hx hb (dc tbX3_setBehind_k 0 rfl) rfl (lv_at hl 0 rfl) ?_
  refine lv_iconst (v := 1) hx hb (dc tbX3_setBehind_k 1 rfl) ic_1 ?_
  refine lv_iload_n hx hb (dc tbX3_setBehind_k 2 rfl) rfl (lv_at hl 1 rfl) ?_
  refine lv_iconst (v := 1) hx hb (dc tbX3_setBehind_k 3 rfl) ic_1 ?_
  refine lv_ishr hx hb (dc tbX3_setBehind_k 4 rfl) ?_
  refine lv_ishl hx hb (dc tbX3_setBehind_k 5 rfl) ?_
  refine lv_ior hx hb (dc tbX3_setBehind_k 6 rfl) ?_
  cases hf
  exact g_iret hx hb hr hlk hI (dc tbX3_setBehind_k 7 rfl)
theorem cs_X3_setBehind : csF yX3_setBehind cX3_setBehind 2 (some .int) 2 := ⟨q_t3_102, q_t1_6, q_t3_103, by decide +kernel⟩
def mX3_reachSets_b142 (k0 : Nat) (k1 : Nat) (ih67 : Int32 → Mem → Option (Mem × Unit)) (ih107 : Int32 → Int32 → Mem → Option (Mem × Unit)) (x2 : Int32) (x3 : Int32) (M : Mem) : Option (Mem × Unit) := bnd (x3 + (1 : Int32)) (fun x3_142 => ih107 x2 x3_142 M)
set_option maxHeartbeats 4000000 in
set_option maxRecDepth 100000 in
theorem tX3_reachSets_b142 {p : Program} {l : Launch} {e : Env} {s : State} {m : MethodId} {args : Array Value} {below : List Frame} {meth : Method} {c : Code} {G : GT} {kd : Nat → Nat × Nat} {ad : Nat → Nat} (C : Cx p s m args meth c cX3_reachSets 4 none RX3 G kd ad) {k0 : Nat} {k1 : Nat} (hk0 : kPlanner kd k0) (hk1 : kPart kd k1) {MO : Mem} {vo : Unit} {ih67 : Int32 → Mem → Option (Mem × Unit)} {ih107 : Int32 → Int32 → Mem → Option (Mem × Unit)} (hih67 : ∀ (x2 : Int32) (M : Mem), ih67 x2 M = some (MO, vo) → At p l e (rmO 4 0 0) s m args below meth c 0 0 (MQ below (Qg G kd ad s.heap.size MO none) args s 0 0 (AS kd ad s.heap.size)) G kd ad 4 67 [(0, .ref (ad k0)), (1, .ref (ad k1)), (2, .int x2)] [] M) (hih107 : ∀ (x2 : Int32) (x3 : Int32) (M : Mem), ih107 x2 x3 M = some (MO, vo) → At p l e (rmO 4 0 0) s m args below meth c 0 0 (MQ below (Qg G kd ad s.heap.size MO none) args s 0 0 (AS kd ad s.heap.size)) G kd ad 4 107 [(0, .ref (ad k0)), (1, .ref (ad k1)), (2, .int x2), (3, .int x3)] [] M) : ∀ (x2 : Int32) (x3 : Int32) (M : Mem), mX3_reachSets_b142 k0 k1 ih67 ih107 x2 x3 M = some (MO, vo) → At p l e (rmO 4 0 0) s m args below meth c 0 0 (MQ below (Qg G kd ad s.heap.size MO none) args s 0 0 (AS kd ad s.heap.size)) G kd ad 4 142 [(0, .ref (ad k0)), (1, .ref (ad k1)), (2, .int x2), (3, .int x3)] [] M := by
  intro x2 x3 M hf H locs ls hI hl
  obtain ⟨hx, hb, hml, hr, hown, hts, hlk, hK, hap, hsx⟩ := id C
  unfold mX3_reachSets_b142 at hf
  obtain ⟨x3_142, e19, hf⟩ := bnd_s hf
  refine lv_iinc (v := x3_142) (lv' := [(3, .int x3_142), (0, .ref (ad k0)), (1, .ref (ad k1)), (2, .int x2)]) hx hb (dc tbX3_reachSets_1_k 39 rfl) hl (k := 3) rfl (ii_e e19 ic_1) (by decide) rfl (fun ls hl => ?_)
  refine lv_goto (tgt := 107) hx hb (dc tbX3_reachSets_2_k 0 rfl) rfl ?_
  exact hih107 x2 x3_142 M hf _ _ _ hI (lv_sub hl [1, 2, 3, 0] rfl)
def mX3_reachSets_b107 (k0 : Nat) (k1 : Nat) (ih67 : Int32 → Mem → Option (Mem × Unit)) (ih107 : Int32 → Int32 → Mem → Option (Mem × Unit)) (x2 : Int32) (x3 : Int32) (M : Mem) : Option (Mem × Unit) := ite2 ((16 : Int32) ≤ x3) (bnd (x2 + (1 : Int32)) (fun x2_148 => ih67 x2_148 M)) (chk (okb x2 256) (ite2 ((rd M (k0 + 18) (x2).toNatClampNeg) = 0) (mX3_reachSets_b142 k0 k1 ih67 ih107 x2 x3 M) (cap (mX3_isOpen k0 x2 x3 M) (fun r21 => ite2 (r21 = 0) (mX3_reachSets_b142 k0 k1 ih67 ih107 x2 x3 M) (cap (mX3_setBehind x2 x3 M) (fun r25 => chk (okb r25 256) (bnd (wr M (k0 + 18) (r25).toNatClampNeg (vp_nar .boolean (1 : Int32))) (fun M29 => mX3_reachSets_b142 k0 k1 ih67 ih107 x2 x3 M29))))))))
set_option maxHeartbeats 4000000 in
set_option maxRecDepth 100000 in
theorem tX3_reachSets_b107 {p : Program} {l : Launch} {e : Env} {s : State} {m : MethodId} {args : Array Value} {below : List Frame} {meth : Method} {c : Code} {G : GT} {kd : Nat → Nat × Nat} {ad : Nat → Nat} (C : Cx p s m args meth c cX3_reachSets 4 none RX3 G kd ad) {k0 : Nat} {k1 : Nat} (hk0 : kPlanner kd k0) (hk1 : kPart kd k1) {MO : Mem} {vo : Unit} {ih67 : Int32 → Mem → Option (Mem × Unit)} {ih107 : Int32 → Int32 → Mem → Option (Mem × Unit)} (hih67 : ∀ (x2 : Int32) (M : Mem), ih67 x2 M = some (MO, vo) → At p l e (rmO 4 0 0) s m args below meth c 0 0 (MQ below (Qg G kd ad s.heap.size MO none) args s 0 0 (AS kd ad s.heap.size)) G kd ad 4 67 [(0, .ref (ad k0)), (1, .ref (ad k1)), (2, .int x2)] [] M) (hih107 : ∀ (x2 : Int32) (x3 : Int32) (M : Mem), ih107 x2 x3 M = some (MO, vo) → At p l e (rmO 4 0 0) s m args below meth c 0 0 (MQ below (Qg G kd ad s.heap.size MO none) args s 0 0 (AS kd ad s.heap.size)) G kd ad 4 107 [(0, .ref (ad k0)), (1, .ref (ad k1)), (2, .int x2), (3, .int x3)] [] M) : ∀ (x2 : Int32) (x3 : Int32) (M : Mem), mX3_reachSets_b107 k0 k1 ih67 ih107 x2 x3 M = some (MO, vo) → At p l e (rmO 4 0 0) s m args below meth c 0 0 (MQ below (Qg G kd ad s.heap.size MO none) args s 0 0 (AS kd ad s.heap.size)) G kd ad 4 107 [(0, .ref (ad k0)), (1, .ref (ad k1)), (2, .int x2), (3, .int x3)] [] M := by
  intro x2 x3 M hf H locs ls hI hl
  obtain ⟨hx, hb, hml, hr, hown, hts, hlk, hK, hap, hsx⟩ := id C
  unfold mX3_reachSets_b107 at hf
  refine lv_iload_n hx hb (dc tbX3_reachSets_1_k 19 rfl) rfl (lv_at hl 3 rfl) ?_
  refine lv_bipush (v := 16) hx hb (dc tbX3_reachSets_1_k 20 rfl) bp_16 ?_
  refine lv_icmp_ge (tgt := 148) hx hb (dc tbX3_reachSets_1_k 21 rfl) rfl (fun c15 => ?_) (fun c15 => ?_)
  · have hf := ite_t c15 hf
    obtain ⟨x2_148, e16, hf⟩ := bnd_s hf
    refine lv_iinc (v := x2_148) (lv' := [(2, .int x2_148), (0, .ref (ad k0)), (1, .ref (ad k1)), (3, .int x3)]) hx hb (dc tbX3_reachSets_2_k 1 rfl) hl (k := 2) rfl (ii_e e16 ic_1) (by decide) rfl (fun ls hl => ?_)
    refine lv_goto (tgt := 67) hx hb (dc tbX3_reachSets_2_k 2 rfl) rfl ?_
    exact hih67 x2_148 M hf _ _ _ hI (lv_sub hl [1, 2, 0] rfl)
  · have hf := ite_f c15 hf
    refine lv_aload_n hx hb (dc tbX3_reachSets_1_k 22 rfl) rfl (lv_at hl 0 rfl) ?_
    refine gg3_8 hx hb hts hown hK hI hk0.1 q_t2_16 (dc tbX3_reachSets_1_k 23 rfl) ?_
    refine lv_iload_n hx hb (dc tbX3_reachSets_1_k 24 rfl) rfl (lv_at hl 2 rfl) ?_
    obtain ⟨h17, hf⟩ := chk_s hf
    refine g_zald hx hb hK hI hk0.2.2.2.2.2.1 (okb_in h17) (dc tbX3_reachSets_1_k 25 rfl) ?_
    refine lv_if_eq (tgt := 142) hx hb (dc tbX3_reachSets_1_k 26 rfl) rfl (fun c18 => ?_) (fun c18 => ?_)
    · have hf := ite_t c18 hf
      exact tX3_reachSets_b142 C hk0 hk1 hih67 hih107 x2 x3 M hf _ _ _ hI (lv_sub hl [0, 1, 2, 3] rfl)
    · have hf := ite_f c18 hf
      refine lv_aload_n hx hb (dc tbX3_reachSets_1_k 27 rfl) rfl (lv_at hl 0 rfl) ?_
      refine lv_iload_n hx hb (dc tbX3_reachSets_1_k 28 rfl) rfl (lv_at hl 2 rfl) ?_
      refine lv_iload_n hx hb (dc tbX3_reachSets_1_k 29 rfl) rfl (lv_at hl 3 rfl) ?_
      obtain ⟨r21, q20, hf⟩ := cap_s hf
      refine g_callVi hx hb hml hown hts hK hap hsx hI (tX3_isOpen l hk0 q20 H.size) cv_X3_isOpen q_t3_97 rfl rfl ⟨Nat.le_of_ble_eq_true rfl, Nat.le_of_ble_eq_true rfl⟩ hk0.1 (by simp) rfl rfl rfl hl.1 rfl (Nat.le_of_ble_eq_true rfl) (dc tbX3_reachSets_1_k 30 rfl) ⟨Nat.le_of_ble_eq_true rfl, Nat.le_of_ble_eq_true rfl⟩ (fun H locs hI => ?_)
      refine lv_if_eq (tgt := 142) hx hb (dc tbX3_reachSets_1_k 31 rfl) rfl (fun c23 => ?_) (fun c23 => ?_)
      · have hf := ite_t c23 hf
        exact tX3_reachSets_b142 C hk0 hk1 hih67 hih107 x2 x3 M hf _ _ _ hI (lv_sub hl [0, 1, 2, 3] rfl)
      · have hf := ite_f c23 hf
        refine lv_aload_n hx hb (dc tbX3_reachSets_1_k 32 rfl) rfl (lv_at hl 0 rfl) ?_
        refine gg3_8 hx hb hts hown hK hI hk0.1 q_t2_16 (dc tbX3_reachSets_1_k 33 rfl) ?_
        refine lv_iload_n hx hb (dc tbX3_reachSets_1_k 34 rfl) rfl (lv_at hl 2 rfl) ?_
        refine lv_iload_n hx hb (dc tbX3_reachSets_1_k 35 rfl) rfl (lv_at hl 3 rfl) ?_
        obtain ⟨r25, q24, hf⟩ := cap_s hf
        refine g_callSi hx hb hml hown hts hK hap hsx hI (tX3_setBehind l  q24 H.size) cs_X3_setBehind q_t3_101 rfl rfl ⟨Nat.le_of_ble_eq_true rfl, Nat.le_of_ble_eq_true rfl⟩ rfl hl.1 rfl (Nat.le_of_ble_eq_true rfl) (dc tbX3_reachSets_1_k 36 rfl) ⟨Nat.le_of_ble_eq_true rfl, Nat.le_of_ble_eq_true rfl⟩ (fun H locs hI => ?_)
        refine lv_iconst (v := 1) hx hb (dc tbX3_reachSets_1_k 37 rfl) ic_1 ?_
        obtain ⟨h27, hf⟩ := chk_s hf
        obtain ⟨M29, e28, hf⟩ := bnd_s hf
        refine g_zast hx hb hK hap hI hk0.2.2.2.2.2.1 (okb_in h27) (dc tbX3_reachSets_1_k 38 rfl) e28 (fun H locs hI => ?_)
        exact tX3_reachSets_b142 C hk0 hk1 hih67 hih107 x2 x3 M29 hf _ _ _ hI (lv_sub hl [0, 1, 2, 3] rfl)
def mX3_reachSets_l107 (k0 : Nat) (k1 : Nat) (ih67 : Int32 → Mem → Option (Mem × Unit)) : Nat → Int32 → Int32 → Mem → Option (Mem × Unit)
  | 0 => fun _ _ _ => none
  | n + 1 => mX3_reachSets_b107 k0 k1 ih67 (mX3_reachSets_l107 k0 k1 ih67 n)
theorem tX3_reachSets_l107 {p : Program} {l : Launch} {e : Env} {s : State} {m : MethodId} {args : Array Value} {below : List Frame} {meth : Method} {c : Code} {G : GT} {kd : Nat → Nat × Nat} {ad : Nat → Nat} (C : Cx p s m args meth c cX3_reachSets 4 none RX3 G kd ad) {k0 : Nat} {k1 : Nat} (hk0 : kPlanner kd k0) (hk1 : kPart kd k1) {MO : Mem} {vo : Unit} {ih67 : Int32 → Mem → Option (Mem × Unit)} (hih67 : ∀ (x2 : Int32) (M : Mem), ih67 x2 M = some (MO, vo) → At p l e (rmO 4 0 0) s m args below meth c 0 0 (MQ below (Qg G kd ad s.heap.size MO none) args s 0 0 (AS kd ad s.heap.size)) G kd ad 4 67 [(0, .ref (ad k0)), (1, .ref (ad k1)), (2, .int x2)] [] M) : ∀ (fuel : Nat) (x2 : Int32) (x3 : Int32) (M : Mem), mX3_reachSets_l107 k0 k1 ih67 fuel x2 x3 M = some (MO, vo) → At p l e (rmO 4 0 0) s m args below meth c 0 0 (MQ below (Qg G kd ad s.heap.size MO none) args s 0 0 (AS kd ad s.heap.size)) G kd ad 4 107 [(0, .ref (ad k0)), (1, .ref (ad k1)), (2, .int x2), (3, .int x3)] [] M := by
  intro fuel
  induction fuel with
  | zero => intro x2 x3 M hf; cases hf
  | succ n IH => exact tX3_reachSets_b107 C hk0 hk1 hih67 IH
def mX3_reachSets_b105 (k0 : Nat) (k1 : Nat) (ih67 : Int32 → Mem → Option (Mem × Unit)) (x2 : Int32) (M : Mem) : Option (Mem × Unit) := mX3_reachSets_l107 k0 k1 ih67 5000 x2 (0 : Int32) M
set_option maxHeartbeats 4000000 in
set_option maxRecDepth 100000 in
theorem tX3_reachSets_b105 {p : Program} {l : Launch} {e : Env} {s : State} {m : MethodId} {args : Array Value} {below : List Frame} {meth : Method} {c : Code} {G : GT} {kd : Nat → Nat × Nat} {ad : Nat → Nat} (C : Cx p s m args meth c cX3_reachSets 4 none RX3 G kd ad) {k0 : Nat} {k1 : Nat} (hk0 : kPlanner kd k0) (hk1 : kPart kd k1) {MO : Mem} {vo : Unit} {ih67 : Int32 → Mem → Option (Mem × Unit)} (hih67 : ∀ (x2 : Int32) (M : Mem), ih67 x2 M = some (MO, vo) → At p l e (rmO 4 0 0) s m args below meth c 0 0 (MQ below (Qg G kd ad s.heap.size MO none) args s 0 0 (AS kd ad s.heap.size)) G kd ad 4 67 [(0, .ref (ad k0)), (1, .ref (ad k1)), (2, .int x2)] [] M) : ∀ (x2 : Int32) (M : Mem), mX3_reachSets_b105 k0 k1 ih67 x2 M = some (MO, vo) → At p l e (rmO 4 0 0) s m args below meth c 0 0 (MQ below (Qg G kd ad s.heap.size MO none) args s 0 0 (AS kd ad s.heap.size)) G kd ad 4 105 [(0, .ref (ad k0)), (1, .ref (ad k1)), (2, .int x2)] [] M := by
  intro x2 M hf H locs ls hI hl
  obtain ⟨hx, hb, hml, hr, hown, hts, hlk, hK, hap, hsx⟩ := id C
  unfold mX3_reachSets_b105 at hf
  refine lv_iconst (v := 0) hx hb (dc tbX3_reachSets_1_k 17 rfl) ic_0 ?_
  refine lv_istore_n (lv' := [(3, .int (0 : Int32)), (0, .ref (ad k0)), (1, .ref (ad k1)), (2, .int x2)]) hx hb (dc tbX3_reachSets_1_k 18 rfl) rfl hl (by decide) rfl (fun ls hl => ?_)
  exact tX3_reachSets_l107 C hk0 hk1 hih67 5000 x2 (0 : Int32) M hf _ _ _ hI (lv_sub hl [1, 2, 3, 0] rfl)
def mX3_reachSets_b67 (k0 : Nat) (k1 : Nat) (ih67 : Int32 → Mem → Option (Mem × Unit)) (x2 : Int32) (M : Mem) : Option (Mem × Unit) := ite2 ((256 : Int32) ≤ x2) (some (M, ())) (chk (okb x2 256) (ite2 ((rd M (k0 + 18) (x2).toNatClampNeg) = 0) (mX3_reachSets_b105 k0 k1 ih67 x2 M) (chk (okb x2 256) (ite2 ((rd M (k0 + 17) (x2).toNatClampNeg) = (-1 : Int32)) (cal (mX3_findSteps k0 k1 x2 M) (fun M34 r33 => chk (okb x2 256) (bnd (wr M34 (k0 + 17) (x2).toNatClampNeg r33) (fun M37 => mX3_reachSets_b105 k0 k1 ih67 x2 M37)))) (mX3_reachSets_b105 k0 k1 ih67 x2 M)))))
set_option maxHeartbeats 4000000 in
set_option maxRecDepth 100000 in
theorem tX3_reachSets_b67 {p : Program} {l : Launch} {e : Env} {s : State} {m : MethodId} {args : Array Value} {below : List Frame} {meth : Method} {c : Code} {G : GT} {kd : Nat → Nat × Nat} {ad : Nat → Nat} (C : Cx p s m args meth c cX3_reachSets 4 none RX3 G kd ad) {k0 : Nat} {k1 : Nat} (hk0 : kPlanner kd k0) (hk1 : kPart kd k1) {MO : Mem} {vo : Unit} {ih67 : Int32 → Mem → Option (Mem × Unit)} (hih67 : ∀ (x2 : Int32) (M : Mem), ih67 x2 M = some (MO, vo) → At p l e (rmO 4 0 0) s m args below meth c 0 0 (MQ below (Qg G kd ad s.heap.size MO none) args s 0 0 (AS kd ad s.heap.size)) G kd ad 4 67 [(0, .ref (ad k0)), (1, .ref (ad k1)), (2, .int x2)] [] M) : ∀ (x2 : Int32) (M : Mem), mX3_reachSets_b67 k0 k1 ih67 x2 M = some (MO, vo) → At p l e (rmO 4 0 0) s m args below meth c 0 0 (MQ below (Qg G kd ad s.heap.size MO none) args s 0 0 (AS kd ad s.heap.size)) G kd ad 4 67 [(0, .ref (ad k0)), (1, .ref (ad k1)), (2, .int x2)] [] M := by
  intro x2 M hf H locs ls hI hl
  obtain ⟨hx, hb, hml, hr, hown, hts, hlk, hK, hap, hsx⟩ := id C
  unfold mX3_reachSets_b67 at hf
  refine lv_iload_n hx hb (dc tbX3_reachSets_0_k 35 rfl) rfl (lv_at hl 2 rfl) ?_
  refine lv_sipush (v := 256) hx hb (dc tbX3_reachSets_0_k 36 rfl) sp_256 ?_
  refine lv_icmp_ge (tgt := 154) hx hb (dc tbX3_reachSets_0_k 37 rfl) rfl (fun c12 => ?_) (fun c12 => ?_)
  · have hf := ite_t c12 hf
    cases hf
    exact g_vret hx hb hr hlk hI (dc tbX3_reachSets_2_k 3 rfl)
  · have hf := ite_f c12 hf
    refine lv_aload_n hx hb (dc tbX3_reachSets_0_k 38 rfl) rfl (lv_at hl 0 rfl) ?_
    refine gg3_8 hx hb hts hown hK hI hk0.1 q_t2_16 (dc tbX3_reachSets_0_k 39 rfl) ?_
    refine lv_iload_n hx hb (dc tbX3_reachSets_1_k 0 rfl) rfl (lv_at hl 2 rfl) ?_
    obtain ⟨h13, hf⟩ := chk_s hf
    refine g_zald hx hb hK hI hk0.2.2.2.2.2.1 (okb_in h13) (dc tbX3_reachSets_1_k 1 rfl) ?_
    refine lv_if_eq (tgt := 105) hx hb (dc tbX3_reachSets_1_k 2 rfl) rfl (fun c14 => ?_) (fun c14 => ?_)
    · have hf := ite_t c14 hf
      exact tX3_reachSets_b105 C hk0 hk1 hih67 x2 M hf _ _ _ hI (lv_sub hl [0, 1, 2] rfl)
    · have hf := ite_f c14 hf
      refine lv_aload_n hx hb (dc tbX3_reachSets_1_k 3 rfl) rfl (lv_at hl 0 rfl) ?_
      refine gg3_7 hx hb hts hown hK hI hk0.1 q_t2_15 (dc tbX3_reachSets_1_k 4 rfl) ?_
      refine lv_iload_n hx hb (dc tbX3_reachSets_1_k 5 rfl) rfl (lv_at hl 2 rfl) ?_
      obtain ⟨h30, hf⟩ := chk_s hf
      refine g_iald hx hb hK hI hk0.2.2.2.2.1 (okb_in h30) (dc tbX3_reachSets_1_k 6 rfl) ?_
      refine lv_iconst (v := -1) hx hb (dc tbX3_reachSets_1_k 7 rfl) ic_m1 ?_
      refine lv_icmp_ne (tgt := 105) hx hb (dc tbX3_reachSets_1_k 8 rfl) rfl (fun c31 => ?_) (fun c31 => ?_)
      · have hf := ite_f c31 hf
        exact tX3_reachSets_b105 C hk0 hk1 hih67 x2 M hf _ _ _ hI (lv_sub hl [0, 1, 2] rfl)
      · have hf := ite_t c31 hf
        refine lv_aload_n hx hb (dc tbX3_reachSets_1_k 9 rfl) rfl (lv_at hl 0 rfl) ?_
        refine gg3_7 hx hb hts hown hK hI hk0.1 q_t2_15 (dc tbX3_reachSets_1_k 10 rfl) ?_
        refine lv_iload_n hx hb (dc tbX3_reachSets_1_k 11 rfl) rfl (lv_at hl 2 rfl) ?_
        refine lv_aload_n hx hb (dc tbX3_reachSets_1_k 12 rfl) rfl (lv_at hl 0 rfl) ?_
        refine lv_aload_n hx hb (dc tbX3_reachSets_1_k 13 rfl) rfl (lv_at hl 1 rfl) ?_
        refine lv_iload_n hx hb (dc tbX3_reachSets_1_k 14 rfl) rfl (lv_at hl 2 rfl) ?_
        obtain ⟨M34, r33, q32, hf⟩ := cal_s hf
        refine g_callVi hx hb hml hown hts hK hap hsx hI (tX3_findSteps l hk0 hk1 q32 H.size) cv_X3_findSteps q_t3_90 rfl rfl ⟨Nat.le_of_ble_eq_true rfl, Nat.le_of_ble_eq_true rfl⟩ hk0.1 (by simp) rfl rfl rfl hl.1 rfl (Nat.le_of_ble_eq_true rfl) (dc tbX3_reachSets_1_k 15 rfl) ⟨Nat.le_of_ble_eq_true rfl, Nat.le_of_ble_eq_true rfl⟩ (fun H locs hI => ?_)
        obtain ⟨h35, hf⟩ := chk_s hf
        obtain ⟨M37, e36, hf⟩ := bnd_s hf
        refine g_iast hx hb hK hap hI hk0.2.2.2.2.1 (okb_in h35) (dc tbX3_reachSets_1_k 16 rfl) e36 (fun H locs hI => ?_)
        exact tX3_reachSets_b105 C hk0 hk1 hih67 x2 M37 hf _ _ _ hI (lv_sub hl [0, 1, 2] rfl)
def mX3_reachSets_l67 (k0 : Nat) (k1 : Nat) : Nat → Int32 → Mem → Option (Mem × Unit)
  | 0 => fun _ _ => none
  | n + 1 => mX3_reachSets_b67 k0 k1 (mX3_reachSets_l67 k0 k1 n)
theorem tX3_reachSets_l67 {p : Program} {l : Launch} {e : Env} {s : State} {m : MethodId} {args : Array Value} {below : List Frame} {meth : Method} {c : Code} {G : GT} {kd : Nat → Nat × Nat} {ad : Nat → Nat} (C : Cx p s m args meth c cX3_reachSets 4 none RX3 G kd ad) {k0 : Nat} {k1 : Nat} (hk0 : kPlanner kd k0) (hk1 : kPart kd k1) {MO : Mem} {vo : Unit}   : ∀ (fuel : Nat) (x2 : Int32) (M : Mem), mX3_reachSets_l67 k0 k1 fuel x2 M = some (MO, vo) → At p l e (rmO 4 0 0) s m args below meth c 0 0 (MQ below (Qg G kd ad s.heap.size MO none) args s 0 0 (AS kd ad s.heap.size)) G kd ad 4 67 [(0, .ref (ad k0)), (1, .ref (ad k1)), (2, .int x2)] [] M := by
  intro fuel
  induction fuel with
  | zero => intro x2 M hf; cases hf
  | succ n IH => exact tX3_reachSets_b67 C hk0 hk1 IH
def mX3_reachSets_b55 (k0 : Nat) (k1 : Nat) (ih30 : Int32 → Mem → Option (Mem × Unit)) (x2 : Int32) (y1 : Int32) (y2 : Int32) (M : Mem) : Option (Mem × Unit) := chk (okb y1 256) (bnd (wr M (k0 + 18) (y1).toNatClampNeg (vp_nar .boolean y2)) (fun M41 => bnd (x2 + (1 : Int32)) (fun x2_56 => ih30 x2_56 M41)))
set_option maxHeartbeats 4000000 in
set_option maxRecDepth 100000 in
theorem tX3_reachSets_b55 {p : Program} {l : Launch} {e : Env} {s : State} {m : MethodId} {args : Array Value} {below : List Frame} {meth : Method} {c : Code} {G : GT} {kd : Nat → Nat × Nat} {ad : Nat → Nat} (C : Cx p s m args meth c cX3_reachSets 4 none RX3 G kd ad) {k0 : Nat} {k1 : Nat} (hk0 : kPlanner kd k0) (hk1 : kPart kd k1) {MO : Mem} {vo : Unit} {ih30 : Int32 → Mem → Option (Mem × Unit)} (hih30 : ∀ (x2 : Int32) (M : Mem), ih30 x2 M = some (MO, vo) → At p l e (rmO 4 0 0) s m args below meth c 0 0 (MQ below (Qg G kd ad s.heap.size MO none) args s 0 0 (AS kd ad s.heap.size)) G kd ad 4 30 [(0, .ref (ad k0)), (1, .ref (ad k1)), (2, .int x2)] [] M) : ∀ (x2 : Int32) (y1 : Int32) (y2 : Int32) (M : Mem), mX3_reachSets_b55 k0 k1 ih30 x2 y1 y2 M = some (MO, vo) → At p l e (rmO 4 0 0) s m args below meth c 0 0 (MQ below (Qg G kd ad s.heap.size MO none) args s 0 0 (AS kd ad s.heap.size)) G kd ad 4 55 [(0, .ref (ad k0)), (1, .ref (ad k1)), (2, .int x2)] [.int y2, .int y1, .ref (ad (k0 + 18))] M := by
  intro x2 y1 y2 M hf H locs ls hI hl
  obtain ⟨hx, hb, hml, hr, hown, hts, hlk, hK, hap, hsx⟩ := id C
  unfold mX3_reachSets_b55 at hf
  obtain ⟨h39, hf⟩ := chk_s hf
  obtain ⟨M41, e40, hf⟩ := bnd_s hf
  refine g_zast hx hb hK hap hI hk0.2.2.2.2.2.1 (okb_in h39) (dc tbX3_reachSets_0_k 29 rfl) e40 (fun H locs hI => ?_)
  obtain ⟨x2_56, e42, hf⟩ := bnd_s hf
  refine lv_iinc (v := x2_56) (lv' := [(2, .int x2_56), (0, .ref (ad k0)), (1, .ref (ad k1))]) hx hb (dc tbX3_reachSets_0_k 30 rfl) hl (k := 2) rfl (ii_e e42 ic_1) (by decide) rfl (fun ls hl => ?_)
  refine lv_goto (tgt := 30) hx hb (dc tbX3_reachSets_0_k 31 rfl) rfl ?_
  exact hih30 x2_56 M41 hf _ _ _ hI (lv_sub hl [1, 2, 0] rfl)
def mX3_reachSets_b30 (k0 : Nat) (k1 : Nat) (ih30 : Int32 → Mem → Option (Mem × Unit)) (x2 : Int32) (M : Mem) : Option (Mem × Unit) := ite2 ((256 : Int32) ≤ x2) (bnd ((rd M k1 13)) (fun x2_66 => mX3_reachSets_l67 k0 k1 5000 x2_66 M)) (ite2 (x2 = (rd M k1 13)) (mX3_reachSets_b55 k0 k1 ih30 x2 x2 (1 : Int32) M) (mX3_reachSets_b55 k0 k1 ih30 x2 x2 (0 : Int32) M))
set_option maxHeartbeats 4000000 in
set_option maxRecDepth 100000 in
theorem tX3_reachSets_b30 {p : Program} {l : Launch} {e : Env} {s : State} {m : MethodId} {args : Array Value} {below : List Frame} {meth : Method} {c : Code} {G : GT} {kd : Nat → Nat × Nat} {ad : Nat → Nat} (C : Cx p s m args meth c cX3_reachSets 4 none RX3 G kd ad) {k0 : Nat} {k1 : Nat} (hk0 : kPlanner kd k0) (hk1 : kPart kd k1) {MO : Mem} {vo : Unit} {ih30 : Int32 → Mem → Option (Mem × Unit)} (hih30 : ∀ (x2 : Int32) (M : Mem), ih30 x2 M = some (MO, vo) → At p l e (rmO 4 0 0) s m args below meth c 0 0 (MQ below (Qg G kd ad s.heap.size MO none) args s 0 0 (AS kd ad s.heap.size)) G kd ad 4 30 [(0, .ref (ad k0)), (1, .ref (ad k1)), (2, .int x2)] [] M) : ∀ (x2 : Int32) (M : Mem), mX3_reachSets_b30 k0 k1 ih30 x2 M = some (MO, vo) → At p l e (rmO 4 0 0) s m args below meth c 0 0 (MQ below (Qg G kd ad s.heap.size MO none) args s 0 0 (AS kd ad s.heap.size)) G kd ad 4 30 [(0, .ref (ad k0)), (1, .ref (ad k1)), (2, .int x2)] [] M := by
  intro x2 M hf H locs ls hI hl
  obtain ⟨hx, hb, hml, hr, hown, hts, hlk, hK, hap, hsx⟩ := id C
  unfold mX3_reachSets_b30 at hf
  refine lv_iload_n hx hb (dc tbX3_reachSets_0_k 16 rfl) rfl (lv_at hl 2 rfl) ?_
  refine lv_sipush (v := 256) hx hb (dc tbX3_reachSets_0_k 17 rfl) sp_256 ?_
  refine lv_icmp_ge (tgt := 62) hx hb (dc tbX3_reachSets_0_k 18 rfl) rfl (fun c10 => ?_) (fun c10 => ?_)
  · have hf := ite_t c10 hf
    refine lv_aload_n hx hb (dc tbX3_reachSets_0_k 32 rfl) rfl (lv_at hl 1 rfl) ?_
    refine gg1_13 hx hb hts hown hK hI hk1.1 q_t1_127 (dc tbX3_reachSets_0_k 33 rfl) ?_
    obtain ⟨x2_66, e11, hf⟩ := bnd_s hf
    refine lv_ei e11 ?_
    refine lv_istore_n (lv' := [(2, .int x2_66), (0, .ref (ad k0)), (1, .ref (ad k1))]) hx hb (dc tbX3_reachSets_0_k 34 rfl) rfl hl (by decide) rfl (fun ls hl => ?_)
    exact tX3_reachSets_l67 C hk0 hk1 5000 x2_66 M hf _ _ _ hI (lv_sub hl [1, 2, 0] rfl)
  · have hf := ite_f c10 hf
    refine lv_aload_n hx hb (dc tbX3_reachSets_0_k 19 rfl) rfl (lv_at hl 0 rfl) ?_
    refine gg3_8 hx hb hts hown hK hI hk0.1 q_t2_16 (dc tbX3_reachSets_0_k 20 rfl) ?_
    refine lv_iload_n hx hb (dc tbX3_reachSets_0_k 21 rfl) rfl (lv_at hl 2 rfl) ?_
    refine lv_iload_n hx hb (dc tbX3_reachSets_0_k 22 rfl) rfl (lv_at hl 2 rfl) ?_
    refine lv_aload_n hx hb (dc tbX3_reachSets_0_k 23 rfl) rfl (lv_at hl 1 rfl) ?_
    refine gg1_13 hx hb hts hown hK hI hk1.1 q_t1_127 (dc tbX3_reachSets_0_k 24 rfl) ?_
    refine lv_icmp_ne (tgt := 54) hx hb (dc tbX3_reachSets_0_k 25 rfl) rfl (fun c38 => ?_) (fun c38 => ?_)
    · have hf := ite_f c38 hf
      refine lv_iconst (v := 0) hx hb (dc tbX3_reachSets_0_k 28 rfl) ic_0 ?_
      exact tX3_reachSets_b55 C hk0 hk1 hih30 x2 x2 (0 : Int32) M hf _ _ _ hI (lv_sub hl [0, 1, 2] rfl)
    · have hf := ite_t c38 hf
      refine lv_iconst (v := 1) hx hb (dc tbX3_reachSets_0_k 26 rfl) ic_1 ?_
      refine lv_goto (tgt := 55) hx hb (dc tbX3_reachSets_0_k 27 rfl) rfl ?_
      exact tX3_reachSets_b55 C hk0 hk1 hih30 x2 x2 (1 : Int32) M hf _ _ _ hI (lv_sub hl [0, 1, 2] rfl)
def mX3_reachSets_l30 (k0 : Nat) (k1 : Nat) : Nat → Int32 → Mem → Option (Mem × Unit)
  | 0 => fun _ _ => none
  | n + 1 => mX3_reachSets_b30 k0 k1 (mX3_reachSets_l30 k0 k1 n)
theorem tX3_reachSets_l30 {p : Program} {l : Launch} {e : Env} {s : State} {m : MethodId} {args : Array Value} {below : List Frame} {meth : Method} {c : Code} {G : GT} {kd : Nat → Nat × Nat} {ad : Nat → Nat} (C : Cx p s m args meth c cX3_reachSets 4 none RX3 G kd ad) {k0 : Nat} {k1 : Nat} (hk0 : kPlanner kd k0) (hk1 : kPart kd k1) {MO : Mem} {vo : Unit}   : ∀ (fuel : Nat) (x2 : Int32) (M : Mem), mX3_reachSets_l30 k0 k1 fuel x2 M = some (MO, vo) → At p l e (rmO 4 0 0) s m args below meth c 0 0 (MQ below (Qg G kd ad s.heap.size MO none) args s 0 0 (AS kd ad s.heap.size)) G kd ad 4 30 [(0, .ref (ad k0)), (1, .ref (ad k1)), (2, .int x2)] [] M := by
  intro fuel
  induction fuel with
  | zero => intro x2 M hf; cases hf
  | succ n IH => exact tX3_reachSets_b30 C hk0 hk1 IH
def mX3_reachSets_b15 (k0 : Nat) (k1 : Nat) (M : Mem) : Option (Mem × Unit) := cal (mX1_copyFrom (k0 + 9) k1 M) (fun M7 _ => bnd (wr M7 k0 6 (0 : Int32)) (fun M8 => mX3_reachSets_l30 k0 k1 5000 (0 : Int32) M8))
set_option maxHeartbeats 4000000 in
set_option maxRecDepth 100000 in
theorem tX3_reachSets_b15 {p : Program} {l : Launch} {e : Env} {s : State} {m : MethodId} {args : Array Value} {below : List Frame} {meth : Method} {c : Code} {G : GT} {kd : Nat → Nat × Nat} {ad : Nat → Nat} (C : Cx p s m args meth c cX3_reachSets 4 none RX3 G kd ad) {k0 : Nat} {k1 : Nat} (hk0 : kPlanner kd k0) (hk1 : kPart kd k1) {MO : Mem} {vo : Unit}   : ∀  (M : Mem), mX3_reachSets_b15 k0 k1 M = some (MO, vo) → At p l e (rmO 4 0 0) s m args below meth c 0 0 (MQ below (Qg G kd ad s.heap.size MO none) args s 0 0 (AS kd ad s.heap.size)) G kd ad 4 15 [(0, .ref (ad k0)), (1, .ref (ad k1))] [] M := by
  intro M hf H locs ls hI hl
  obtain ⟨hx, hb, hml, hr, hown, hts, hlk, hK, hap, hsx⟩ := id C
  unfold mX3_reachSets_b15 at hf
  refine lv_aload_n hx hb (dc tbX3_reachSets_0_k 7 rfl) rfl (lv_at hl 0 rfl) ?_
  refine gg3_5 hx hb hts hown hK hI hk0.1 q_t2_13 (dc tbX3_reachSets_0_k 8 rfl) ?_
  refine lv_aload_n hx hb (dc tbX3_reachSets_0_k 9 rfl) rfl (lv_at hl 1 rfl) ?_
  obtain ⟨M7, r6, q5, hf⟩ := cal_s hf
  refine g_callVv hx hb hml hown hts hK hap hsx hI (tX1_copyFrom l hk0.2.2.2.1 hk1 q5 H.size) cv_X1_copyFrom q_t3_83 rfl rfl ⟨Nat.le_of_ble_eq_true rfl, Nat.le_of_ble_eq_true rfl⟩ hk0.2.2.2.1.1 (by simp) rfl rfl rfl hl.1 rfl (Nat.le_of_ble_eq_true rfl) (dc tbX3_reachSets_0_k 10 rfl) ⟨Nat.le_of_ble_eq_true rfl, Nat.le_of_ble_eq_true rfl⟩ (fun H locs hI => ?_)
  refine lv_aload_n hx hb (dc tbX3_reachSets_0_k 11 rfl) rfl (lv_at hl 0 rfl) ?_
  refine lv_iconst (v := 0) hx hb (dc tbX3_reachSets_0_k 12 rfl) ic_0 ?_
  obtain ⟨M8, e9, hf⟩ := bnd_s hf
  refine gp3_6 hx hb hts hown hK hap hI hk0.1 q_t2_14 (dc tbX3_reachSets_0_k 13 rfl) rfl rfl e9 (fun H locs hI => ?_)
  refine lv_iconst (v := 0) hx hb (dc tbX3_reachSets_0_k 14 rfl) ic_0 ?_
  refine lv_istore_n (lv' := [(2, .int (0 : Int32)), (0, .ref (ad k0)), (1, .ref (ad k1))]) hx hb (dc tbX3_reachSets_0_k 15 rfl) rfl hl (by decide) rfl (fun ls hl => ?_)
  exact tX3_reachSets_l30 C hk0 hk1 5000 (0 : Int32) M8 hf _ _ _ hI (lv_sub hl [1, 2, 0] rfl)
def mX3_reachSets (k0 : Nat) (k1 : Nat) (M : Mem) : Option (Mem × Unit) := cap (mX1_bendsLike k1 (k0 + 9) M) (fun r2 => ite2 (r2 = 0) (cal (mX3_forgetSteps k0 M) (fun M45 _ => mX3_reachSets_b15 k0 k1 M45)) (mX3_reachSets_b15 k0 k1 M))
set_option maxHeartbeats 4000000 in
set_option maxRecDepth 100000 in
theorem tX3_reachSets (l : Launch) {G : GT} {kd : Nat → Nat × Nat} {ad : Nat → Nat} {k0 : Nat} {k1 : Nat} (hk0 : kPlanner kd k0) (hk1 : kPart kd k1) {M : Mem} {MO : Mem} {vo : Unit} (hf : mX3_reachSets k0 k1 M = some (MO, vo)) (n : Nat) : Met l yX3_reachSets (Cond.code yX3_reachSets cX3_reachSets 4 none :: WA) (rmO 4 0 0) (Pg G kd ad n [.ref (ad k0), .ref (ad k1)] M) (Qg G kd ad n MO none) 0 0 (AS kd ad n) := by
  refine g_body (own := RX3) (by decide) rfl ?_ (Nat.le_of_ble_eq_true rfl)
  intro p e s m args below meth c C _ H locs ls hI hl
  obtain ⟨hx, hb, hml, hr, hown, hts, hlk, hK, hap, hsx⟩ := id C
  have hl : lv_has ls 4 [(0, .ref (ad k0)), (1, .ref (ad k1))] := hl
  unfold mX3_reachSets at hf
  refine lv_aload_n hx hb (dc tbX3_reachSets_0_k 0 rfl) rfl (lv_at hl 1 rfl) ?_
  refine lv_aload_n hx hb (dc tbX3_reachSets_0_k 1 rfl) rfl (lv_at hl 0 rfl) ?_
  refine gg3_5 hx hb hts hown hK hI hk0.1 q_t2_13 (dc tbX3_reachSets_0_k 2 rfl) ?_
  obtain ⟨r2, q1, hf⟩ := cap_s hf
  refine g_callVi hx hb hml hown hts hK hap hsx hI (tX1_bendsLike l hk1 hk0.2.2.2.1 q1 H.size) cv_X1_bendsLike q_t3_63 rfl rfl ⟨Nat.le_of_ble_eq_true rfl, Nat.le_of_ble_eq_true rfl⟩ hk1.1 (by simp) rfl rfl rfl hl.1 rfl (Nat.le_of_ble_eq_true rfl) (dc tbX3_reachSets_0_k 3 rfl) ⟨Nat.le_of_ble_eq_true rfl, Nat.le_of_ble_eq_true rfl⟩ (fun H locs hI => ?_)
  refine lv_if_ne (tgt := 15) hx hb (dc tbX3_reachSets_0_k 4 rfl) rfl (fun c4 => ?_) (fun c4 => ?_)
  · have hf := ite_f c4 hf
    exact tX3_reachSets_b15 C hk0 hk1 M hf _ _ _ hI (lv_sub hl [0, 1] rfl)
  · have hf := ite_t c4 hf
    refine lv_aload_n hx hb (dc tbX3_reachSets_0_k 5 rfl) rfl (lv_at hl 0 rfl) ?_
    obtain ⟨M45, r44, q43, hf⟩ := cal_s hf
    refine g_callVv hx hb hml hown hts hK hap hsx hI (tX3_forgetSteps l hk0 q43 H.size) cv_X3_forgetSteps q_t2_0 rfl rfl ⟨Nat.le_of_ble_eq_true rfl, Nat.le_of_ble_eq_true rfl⟩ hk0.1 (by simp) rfl rfl rfl hl.1 rfl (Nat.le_of_ble_eq_true rfl) (dc tbX3_reachSets_0_k 6 rfl) ⟨Nat.le_of_ble_eq_true rfl, Nat.le_of_ble_eq_true rfl⟩ (fun H locs hI => ?_)
    exact tX3_reachSets_b15 C hk0 hk1 M45 hf _ _ _ hI (lv_sub hl [0, 1] rfl)
theorem cv_X3_reachSets : cvF RX3 yX3_reachSets cX3_reachSets 4 none 1 := ⟨q_t3_81, q_s1_7, q_t1_6, q_t3_82, by decide +kernel⟩
def mX3_countOrders_b78 (k0 : Nat) (k1 : Nat) (ih9 : Int32 → Int32 → Mem → Option (Mem × Unit)) (ih32 : Int32 → Int32 → Int32 → Mem → Option (Mem × Unit)) (x2 : Int32) (x3 : Int32) (x4 : Int32) (M : Mem) : Option (Mem × Unit) := bnd (x4 + (1 : Int32)) (fun x4_78 => ih32 x2 x3 x4_78 M)
set_option maxHeartbeats 4000000 in
set_option maxRecDepth 100000 in
theorem tX3_countOrders_b78 {p : Program} {l : Launch} {e : Env} {s : State} {m : MethodId} {args : Array Value} {below : List Frame} {meth : Method} {c : Code} {G : GT} {kd : Nat → Nat × Nat} {ad : Nat → Nat} (C : Cx p s m args meth c cX3_countOrders 5 none RX3 G kd ad) {k0 : Nat} {k1 : Nat} (hk0 : kPlanner kd k0) (hk1 : kPart kd k1) {MO : Mem} {vo : Unit} {ih9 : Int32 → Int32 → Mem → Option (Mem × Unit)} {ih32 : Int32 → Int32 → Int32 → Mem → Option (Mem × Unit)} (hih9 : ∀ (x2 : Int32) (x3 : Int32) (M : Mem), ih9 x2 x3 M = some (MO, vo) → At p l e (rmO 2 0 0) s m args below meth c 0 0 (MQ below (Qg G kd ad s.heap.size MO none) args s 0 0 (AS kd ad s.heap.size)) G kd ad 5 9 [(0, .ref (ad k0)), (2, .int x2), (3, .int x3)] [] M) (hih32 : ∀ (x2 : Int32) (x3 : Int32) (x4 : Int32) (M : Mem), ih32 x2 x3 x4 M = some (MO, vo) → At p l e (rmO 2 0 0) s m args below meth c 0 0 (MQ below (Qg G kd ad s.heap.size MO none) args s 0 0 (AS kd ad s.heap.size)) G kd ad 5 32 [(0, .ref (ad k0)), (2, .int x2), (3, .int x3), (4, .int x4)] [] M) : ∀ (x2 : Int32) (x3 : Int32) (x4 : Int32) (M : Mem), mX3_countOrders_b78 k0 k1 ih9 ih32 x2 x3 x4 M = some (MO, vo) → At p l e (rmO 2 0 0) s m args below meth c 0 0 (MQ below (Qg G kd ad s.heap.size MO none) args s 0 0 (AS kd ad s.heap.size)) G kd ad 5 78 [(0, .ref (ad k0)), (2, .int x2), (3, .int x3), (4, .int x4)] [] M := by
  intro x2 x3 x4 M hf H locs ls hI hl
  obtain ⟨hx, hb, hml, hr, hown, hts, hlk, hK, hap, hsx⟩ := id C
  unfold mX3_countOrders_b78 at hf
  obtain ⟨x4_78, e13, hf⟩ := bnd_s hf
  refine lv_iinc (v := x4_78) (lv' := [(4, .int x4_78), (0, .ref (ad k0)), (2, .int x2), (3, .int x3)]) hx hb (dc tbX3_countOrders_1_k 5 rfl) hl (k := 3) rfl (ii_e e13 ic_1) (by decide) rfl (fun ls hl => ?_)
  refine lv_goto (tgt := 32) hx hb (dc tbX3_countOrders_1_k 6 rfl) rfl ?_
  exact hih32 x2 x3 x4_78 M hf _ _ _ hI (lv_sub hl [1, 2, 3, 0] rfl)
def mX3_countOrders_b32 (k0 : Nat) (k1 : Nat) (ih9 : Int32 → Int32 → Mem → Option (Mem × Unit)) (ih32 : Int32 → Int32 → Int32 → Mem → Option (Mem × Unit)) (x2 : Int32) (x3 : Int32) (x4 : Int32) (M : Mem) : Option (Mem × Unit) := ite2 ((16 : Int32) ≤ x4) (bnd (x3 + (-1 : Int32)) (fun x3_84 => ih9 x2 x3_84 M)) (chk (okb x3 256) (ite2 ((rd M (k0 + 18) (x3).toNatClampNeg) = 0) (mX3_countOrders_b78 k0 k1 ih9 ih32 x2 x3 x4 M) (cap (mX3_isOpen k0 x3 x4 M) (fun r15 => ite2 (r15 = 0) (mX3_countOrders_b78 k0 k1 ih9 ih32 x2 x3 x4 M) (chk (okb x3 256) (cap (mX3_setBehind x3 x4 M) (fun r20 => chk (okb r20 256) (chk (okb x3 256) (bnd (wl M (k0 + 19) (x3).toNatClampNeg ((rl M (k0 + 19) (x3).toNatClampNeg) + (rl M (k0 + 19) (r20).toNatClampNeg))) (fun M25 => mX3_countOrders_b78 k0 k1 ih9 ih32 x2 x3 x4 M25))))))))))
set_option maxHeartbeats 4000000 in
set_option maxRecDepth 100000 in
theorem tX3_countOrders_b32 {p : Program} {l : Launch} {e : Env} {s : State} {m : MethodId} {args : Array Value} {below : List Frame} {meth : Method} {c : Code} {G : GT} {kd : Nat → Nat × Nat} {ad : Nat → Nat} (C : Cx p s m args meth c cX3_countOrders 5 none RX3 G kd ad) {k0 : Nat} {k1 : Nat} (hk0 : kPlanner kd k0) (hk1 : kPart kd k1) {MO : Mem} {vo : Unit} {ih9 : Int32 → Int32 → Mem → Option (Mem × Unit)} {ih32 : Int32 → Int32 → Int32 → Mem → Option (Mem × Unit)} (hih9 : ∀ (x2 : Int32) (x3 : Int32) (M : Mem), ih9 x2 x3 M = some (MO, vo) → At p l e (rmO 2 0 0) s m args below meth c 0 0 (MQ below (Qg G kd ad s.heap.size MO none) args s 0 0 (AS kd ad s.heap.size)) G kd ad 5 9 [(0, .ref (ad k0)), (2, .int x2), (3, .int x3)] [] M) (hih32 : ∀ (x2 : Int32) (x3 : Int32) (x4 : Int32) (M : Mem), ih32 x2 x3 x4 M = some (MO, vo) → At p l e (rmO 2 0 0) s m args below meth c 0 0 (MQ below (Qg G kd ad s.heap.size MO none) args s 0 0 (AS kd ad s.heap.size)) G kd ad 5 32 [(0, .ref (ad k0)), (2, .int x2), (3, .int x3), (4, .int x4)] [] M) : ∀ (x2 : Int32) (x3 : Int32) (x4 : Int32) (M : Mem), mX3_countOrders_b32 k0 k1 ih9 ih32 x2 x3 x4 M = some (MO, vo) → At p l e (rmO 2 0 0) s m args below meth c 0 0 (MQ below (Qg G kd ad s.heap.size MO none) args s 0 0 (AS kd ad s.heap.size)) G kd ad 5 32 [(0, .ref (ad k0)), (2, .int x2), (3, .int x3), (4, .int x4)] [] M := by
  intro x2 x3 x4 M hf H locs ls hI hl
  obtain ⟨hx, hb, hml, hr, hown, hts, hlk, hK, hap, hsx⟩ := id C
  unfold mX3_countOrders_b32 at hf
  refine lv_iload hx hb (dc tbX3_countOrders_0_k 19 rfl) (lv_at hl 3 rfl) ?_
  refine lv_bipush (v := 16) hx hb (dc tbX3_countOrders_0_k 20 rfl) bp_16 ?_
  refine lv_icmp_ge (tgt := 84) hx hb (dc tbX3_countOrders_0_k 21 rfl) rfl (fun c9 => ?_) (fun c9 => ?_)
  · have hf := ite_t c9 hf
    obtain ⟨x3_84, e10, hf⟩ := bnd_s hf
    refine lv_iinc (v := x3_84) (lv' := [(3, .int x3_84), (0, .ref (ad k0)), (2, .int x2), (4, .int x4)]) hx hb (dc tbX3_countOrders_1_k 7 rfl) hl (k := 2) rfl (ii_e e10 ic_m1) (by decide) rfl (fun ls hl => ?_)
    refine lv_goto (tgt := 9) hx hb (dc tbX3_countOrders_1_k 8 rfl) rfl ?_
    exact hih9 x2 x3_84 M hf _ _ _ hI (lv_sub hl [1, 2, 0] rfl)
  · have hf := ite_f c9 hf
    refine lv_aload_n hx hb (dc tbX3_countOrders_0_k 22 rfl) rfl (lv_at hl 0 rfl) ?_
    refine gg3_8 hx hb hts hown hK hI hk0.1 q_t2_16 (dc tbX3_countOrders_0_k 23 rfl) ?_
    refine lv_iload_n hx hb (dc tbX3_countOrders_0_k 24 rfl) rfl (lv_at hl 2 rfl) ?_
    obtain ⟨h11, hf⟩ := chk_s hf
    refine g_zald hx hb hK hI hk0.2.2.2.2.2.1 (okb_in h11) (dc tbX3_countOrders_0_k 25 rfl) ?_
    refine lv_if_eq (tgt := 78) hx hb (dc tbX3_countOrders_0_k 26 rfl) rfl (fun c12 => ?_) (fun c12 => ?_)
    · have hf := ite_t c12 hf
      exact tX3_countOrders_b78 C hk0 hk1 hih9 hih32 x2 x3 x4 M hf _ _ _ hI (lv_sub hl [0, 1, 2, 3] rfl)
    · have hf := ite_f c12 hf
      refine lv_aload_n hx hb (dc tbX3_countOrders_0_k 27 rfl) rfl (lv_at hl 0 rfl) ?_
      refine lv_iload_n hx hb (dc tbX3_countOrders_0_k 28 rfl) rfl (lv_at hl 2 rfl) ?_
      refine lv_iload hx hb (dc tbX3_countOrders_0_k 29 rfl) (lv_at hl 3 rfl) ?_
      obtain ⟨r15, q14, hf⟩ := cap_s hf
      refine g_callVi hx hb hml hown hts hK hap hsx hI (tX3_isOpen l hk0 q14 H.size) cv_X3_isOpen q_t3_97 rfl rfl ⟨Nat.le_of_ble_eq_true rfl, Nat.le_of_ble_eq_true rfl⟩ hk0.1 (by simp) rfl rfl rfl hl.1 rfl (Nat.le_of_ble_eq_true rfl) (dc tbX3_countOrders_0_k 30 rfl) ⟨Nat.le_of_ble_eq_true rfl, Nat.le_of_ble_eq_true rfl⟩ (fun H locs hI => ?_)
      refine lv_if_eq (tgt := 78) hx hb (dc tbX3_countOrders_0_k 31 rfl) rfl (fun c17 => ?_) (fun c17 => ?_)
      · have hf := ite_t c17 hf
        exact tX3_countOrders_b78 C hk0 hk1 hih9 hih32 x2 x3 x4 M hf _ _ _ hI (lv_sub hl [0, 1, 2, 3] rfl)
      · have hf := ite_f c17 hf
        refine lv_aload_n hx hb (dc tbX3_countOrders_0_k 32 rfl) rfl (lv_at hl 0 rfl) ?_
        refine gg3_9 hx hb hts hown hK hI hk0.1 q_t2_17 (dc tbX3_countOrders_0_k 33 rfl) ?_
        refine lv_iload_n hx hb (dc tbX3_countOrders_0_k 34 rfl) rfl (lv_at hl 2 rfl) ?_
        refine lv_dup2_11 hx hb (dc tbX3_countOrders_0_k 35 rfl) rfl rfl ?_
        obtain ⟨h18, hf⟩ := chk_s hf
        refine g_lald hx hb hK hI hk0.2.2.2.2.2.2.1 (okb_in h18) (dc tbX3_countOrders_0_k 36 rfl) ?_
        refine lv_aload_n hx hb (dc tbX3_countOrders_0_k 37 rfl) rfl (lv_at hl 0 rfl) ?_
        refine gg3_9 hx hb hts hown hK hI hk0.1 q_t2_17 (dc tbX3_countOrders_0_k 38 rfl) ?_
        refine lv_iload_n hx hb (dc tbX3_countOrders_0_k 39 rfl) rfl (lv_at hl 2 rfl) ?_
        refine lv_iload hx hb (dc tbX3_countOrders_1_k 0 rfl) (lv_at hl 3 rfl) ?_
        obtain ⟨r20, q19, hf⟩ := cap_s hf
        refine g_callSi hx hb hml hown hts hK hap hsx hI (tX3_setBehind l  q19 H.size) cs_X3_setBehind q_t3_101 rfl rfl ⟨Nat.le_of_ble_eq_true rfl, Nat.le_of_ble_eq_true rfl⟩ rfl hl.1 rfl (Nat.le_of_ble_eq_true rfl) (dc tbX3_countOrders_1_k 1 rfl) ⟨Nat.le_of_ble_eq_true rfl, Nat.le_of_ble_eq_true rfl⟩ (fun H locs hI => ?_)
        obtain ⟨h22, hf⟩ := chk_s hf
        refine g_lald hx hb hK hI hk0.2.2.2.2.2.2.1 (okb_in h22) (dc tbX3_countOrders_1_k 2 rfl) ?_
        refine lv_ladd hx hb (dc tbX3_countOrders_1_k 3 rfl) ?_
        obtain ⟨h23, hf⟩ := chk_s hf
        obtain ⟨M25, e24, hf⟩ := bnd_s hf
        refine g_last hx hb hK hap hI hk0.2.2.2.2.2.2.1 (okb_in h23) (dc tbX3_countOrders_1_k 4 rfl) e24 (fun H locs hI => ?_)
        exact tX3_countOrders_b78 C hk0 hk1 hih9 hih32 x2 x3 x4 M25 hf _ _ _ hI (lv_sub hl [0, 1, 2, 3] rfl)
def mX3_countOrders_l32 (k0 : Nat) (k1 : Nat) (ih9 : Int32 → Int32 → Mem → Option (Mem × Unit)) : Nat → Int32 → Int32 → Int32 → Mem → Option (Mem × Unit)
  | 0 => fun _ _ _ _ => none
  | n + 1 => mX3_countOrders_b32 k0 k1 ih9 (mX3_countOrders_l32 k0 k1 ih9 n)
theorem tX3_countOrders_l32 {p : Program} {l : Launch} {e : Env} {s : State} {m : MethodId} {args : Array Value} {below : List Frame} {meth : Method} {c : Code} {G : GT} {kd : Nat → Nat × Nat} {ad : Nat → Nat} (C : Cx p s m args meth c cX3_countOrders 5 none RX3 G kd ad) {k0 : Nat} {k1 : Nat} (hk0 : kPlanner kd k0) (hk1 : kPart kd k1) {MO : Mem} {vo : Unit} {ih9 : Int32 → Int32 → Mem → Option (Mem × Unit)} (hih9 : ∀ (x2 : Int32) (x3 : Int32) (M : Mem), ih9 x2 x3 M = some (MO, vo) → At p l e (rmO 2 0 0) s m args below meth c 0 0 (MQ below (Qg G kd ad s.heap.size MO none) args s 0 0 (AS kd ad s.heap.size)) G kd ad 5 9 [(0, .ref (ad k0)), (2, .int x2), (3, .int x3)] [] M) : ∀ (fuel : Nat) (x2 : Int32) (x3 : Int32) (x4 : Int32) (M : Mem), mX3_countOrders_l32 k0 k1 ih9 fuel x2 x3 x4 M = some (MO, vo) → At p l e (rmO 2 0 0) s m args below meth c 0 0 (MQ below (Qg G kd ad s.heap.size MO none) args s 0 0 (AS kd ad s.heap.size)) G kd ad 5 32 [(0, .ref (ad k0)), (2, .int x2), (3, .int x3), (4, .int x4)] [] M := by
  intro fuel
  induction fuel with
  | zero => intro x2 x3 x4 M hf; cases hf
  | succ n IH => exact tX3_countOrders_b32 C hk0 hk1 hih9 IH
def mX3_countOrders_b28 (k0 : Nat) (k1 : Nat) (ih9 : Int32 → Int32 → Mem → Option (Mem × Unit)) (x2 : Int32) (x3 : Int32) (y1 : Int32) (y2 : Int64) (M : Mem) : Option (Mem × Unit) := chk (okb y1 256) (bnd (wl M (k0 + 19) (y1).toNatClampNeg y2) (fun M8 => mX3_countOrders_l32 k0 k1 ih9 5000 x2 x3 (0 : Int32) M8))
set_option maxHeartbeats 4000000 in
set_option maxRecDepth 100000 in
theorem tX3_countOrders_b28 {p : Program} {l : Launch} {e : Env} {s : State} {m : MethodId} {args : Array Value} {below : List Frame} {meth : Method} {c : Code} {G : GT} {kd : Nat → Nat × Nat} {ad : Nat → Nat} (C : Cx p s m args meth c cX3_countOrders 5 none RX3 G kd ad) {k0 : Nat} {k1 : Nat} (hk0 : kPlanner kd k0) (hk1 : kPart kd k1) {MO : Mem} {vo : Unit} {ih9 : Int32 → Int32 → Mem → Option (Mem × Unit)} (hih9 : ∀ (x2 : Int32) (x3 : Int32) (M : Mem), ih9 x2 x3 M = some (MO, vo) → At p l e (rmO 2 0 0) s m args below meth c 0 0 (MQ below (Qg G kd ad s.heap.size MO none) args s 0 0 (AS kd ad s.heap.size)) G kd ad 5 9 [(0, .ref (ad k0)), (2, .int x2), (3, .int x3)] [] M) : ∀ (x2 : Int32) (x3 : Int32) (y1 : Int32) (y2 : Int64) (M : Mem), mX3_countOrders_b28 k0 k1 ih9 x2 x3 y1 y2 M = some (MO, vo) → At p l e (rmO 2 0 0) s m args below meth c 0 0 (MQ below (Qg G kd ad s.heap.size MO none) args s 0 0 (AS kd ad s.heap.size)) G kd ad 5 28 [(0, .ref (ad k0)), (2, .int x2), (3, .int x3)] [.long y2, .int y1, .ref (ad (k0 + 19))] M := by
  intro x2 x3 y1 y2 M hf H locs ls hI hl
  obtain ⟨hx, hb, hml, hr, hown, hts, hlk, hK, hap, hsx⟩ := id C
  unfold mX3_countOrders_b28 at hf
  obtain ⟨h6, hf⟩ := chk_s hf
  obtain ⟨M8, e7, hf⟩ := bnd_s hf
  refine g_last hx hb hK hap hI hk0.2.2.2.2.2.2.1 (okb_in h6) (dc tbX3_countOrders_0_k 16 rfl) e7 (fun H locs hI => ?_)
  refine lv_iconst (v := 0) hx hb (dc tbX3_countOrders_0_k 17 rfl) ic_0 ?_
  refine lv_istore (lv' := [(4, .int (0 : Int32)), (0, .ref (ad k0)), (2, .int x2), (3, .int x3)]) hx hb (dc tbX3_countOrders_0_k 18 rfl) hl (by decide) rfl (fun ls hl => ?_)
  exact tX3_countOrders_l32 C hk0 hk1 hih9 5000 x2 x3 (0 : Int32) M8 hf _ _ _ hI (lv_sub hl [1, 2, 3, 0] rfl)
def mX3_countOrders_b9 (k0 : Nat) (k1 : Nat) (ih9 : Int32 → Int32 → Mem → Option (Mem × Unit)) (x2 : Int32) (x3 : Int32) (M : Mem) : Option (Mem × Unit) := ite2 (x3 < 0) (some (M, ())) (ite2 (x3 = x2) (mX3_countOrders_b28 k0 k1 ih9 x2 x3 x3 (1 : Int64) M) (mX3_countOrders_b28 k0 k1 ih9 x2 x3 x3 (0 : Int64) M))
set_option maxHeartbeats 4000000 in
set_option maxRecDepth 100000 in
theorem tX3_countOrders_b9 {p : Program} {l : Launch} {e : Env} {s : State} {m : MethodId} {args : Array Value} {below : List Frame} {meth : Method} {c : Code} {G : GT} {kd : Nat → Nat × Nat} {ad : Nat → Nat} (C : Cx p s m args meth c cX3_countOrders 5 none RX3 G kd ad) {k0 : Nat} {k1 : Nat} (hk0 : kPlanner kd k0) (hk1 : kPart kd k1) {MO : Mem} {vo : Unit} {ih9 : Int32 → Int32 → Mem → Option (Mem × Unit)} (hih9 : ∀ (x2 : Int32) (x3 : Int32) (M : Mem), ih9 x2 x3 M = some (MO, vo) → At p l e (rmO 2 0 0) s m args below meth c 0 0 (MQ below (Qg G kd ad s.heap.size MO none) args s 0 0 (AS kd ad s.heap.size)) G kd ad 5 9 [(0, .ref (ad k0)), (2, .int x2), (3, .int x3)] [] M) : ∀ (x2 : Int32) (x3 : Int32) (M : Mem), mX3_countOrders_b9 k0 k1 ih9 x2 x3 M = some (MO, vo) → At p l e (rmO 2 0 0) s m args below meth c 0 0 (MQ below (Qg G kd ad s.heap.size MO none) args s 0 0 (AS kd ad s.heap.size)) G kd ad 5 9 [(0, .ref (ad k0)), (2, .int x2), (3, .int x3)] [] M := by
  intro x2 x3 M hf H locs ls hI hl
  obtain ⟨hx, hb, hml, hr, hown, hts, hlk, hK, hap, hsx⟩ := id C
  unfold mX3_countOrders_b9 at hf
  refine lv_iload_n hx hb (dc tbX3_countOrders_0_k 5 rfl) rfl (lv_at hl 2 rfl) ?_
  refine lv_if_lt (tgt := 90) hx hb (dc tbX3_countOrders_0_k 6 rfl) rfl (fun c4 => ?_) (fun c4 => ?_)
  · have hf := ite_t c4 hf
    cases hf
    exact g_vret hx hb hr hlk hI (dc tbX3_countOrders_1_k 9 rfl)
  · have hf := ite_f c4 hf
    refine lv_aload_n hx hb (dc tbX3_countOrders_0_k 7 rfl) rfl (lv_at hl 0 rfl) ?_
    refine gg3_9 hx hb hts hown hK hI hk0.1 q_t2_17 (dc tbX3_countOrders_0_k 8 rfl) ?_
    refine lv_iload_n hx hb (dc tbX3_countOrders_0_k 9 rfl) rfl (lv_at hl 2 rfl) ?_
    refine lv_iload_n hx hb (dc tbX3_countOrders_0_k 10 rfl) rfl (lv_at hl 2 rfl) ?_
    refine lv_iload_n hx hb (dc tbX3_countOrders_0_k 11 rfl) rfl (lv_at hl 1 rfl) ?_
    refine lv_icmp_ne (tgt := 27) hx hb (dc tbX3_countOrders_0_k 12 rfl) rfl (fun c5 => ?_) (fun c5 => ?_)
    · have hf := ite_f c5 hf
      refine lv_lconst (v := 0) hx hb (dc tbX3_countOrders_0_k 15 rfl) (by decide) ?_
      exact tX3_countOrders_b28 C hk0 hk1 hih9 x2 x3 x3 (0 : Int64) M hf _ _ _ hI (lv_sub hl [0, 1, 2] rfl)
    · have hf := ite_t c5 hf
      refine lv_lconst (v := 1) hx hb (dc tbX3_countOrders_0_k 13 rfl) (by decide) ?_
      refine lv_goto (tgt := 28) hx hb (dc tbX3_countOrders_0_k 14 rfl) rfl ?_
      exact tX3_countOrders_b28 C hk0 hk1 hih9 x2 x3 x3 (1 : Int64) M hf _ _ _ hI (lv_sub hl [0, 1, 2] rfl)
def mX3_countOrders_l9 (k0 : Nat) (k1 : Nat) : Nat → Int32 → Int32 → Mem → Option (Mem × Unit)
  | 0 => fun _ _ _ => none
  | n + 1 => mX3_countOrders_b9 k0 k1 (mX3_countOrders_l9 k0 k1 n)
theorem tX3_countOrders_l9 {p : Program} {l : Launch} {e : Env} {s : State} {m : MethodId} {args : Array Value} {below : List Frame} {meth : Method} {c : Code} {G : GT} {kd : Nat → Nat × Nat} {ad : Nat → Nat} (C : Cx p s m args meth c cX3_countOrders 5 none RX3 G kd ad) {k0 : Nat} {k1 : Nat} (hk0 : kPlanner kd k0) (hk1 : kPart kd k1) {MO : Mem} {vo : Unit}   : ∀ (fuel : Nat) (x2 : Int32) (x3 : Int32) (M : Mem), mX3_countOrders_l9 k0 k1 fuel x2 x3 M = some (MO, vo) → At p l e (rmO 2 0 0) s m args below meth c 0 0 (MQ below (Qg G kd ad s.heap.size MO none) args s 0 0 (AS kd ad s.heap.size)) G kd ad 5 9 [(0, .ref (ad k0)), (2, .int x2), (3, .int x3)] [] M := by
  intro fuel
  induction fuel with
  | zero => intro x2 x3 M hf; cases hf
  | succ n IH => exact tX3_countOrders_b9 C hk0 hk1 IH
def mX3_countOrders (k0 : Nat) (k1 : Nat) (M : Mem) : Option (Mem × Unit) := cap (mX1_allBends k1 M) (fun r2 => mX3_countOrders_l9 k0 k1 5000 r2 (255 : Int32) M)
set_option maxHeartbeats 4000000 in
set_option maxRecDepth 100000 in
theorem tX3_countOrders (l : Launch) {G : GT} {kd : Nat → Nat × Nat} {ad : Nat → Nat} {k0 : Nat} {k1 : Nat} (hk0 : kPlanner kd k0) (hk1 : kPart kd k1) {M : Mem} {MO : Mem} {vo : Unit} (hf : mX3_countOrders k0 k1 M = some (MO, vo)) (n : Nat) : Met l yX3_countOrders (Cond.code yX3_countOrders cX3_countOrders 5 none :: WA) (rmO 2 0 0) (Pg G kd ad n [.ref (ad k0), .ref (ad k1)] M) (Qg G kd ad n MO none) 0 0 (AS kd ad n) := by
  refine g_body (own := RX3) (by decide) rfl ?_ (Nat.le_of_ble_eq_true rfl)
  intro p e s m args below meth c C _ H locs ls hI hl
  obtain ⟨hx, hb, hml, hr, hown, hts, hlk, hK, hap, hsx⟩ := id C
  have hl : lv_has ls 5 [(0, .ref (ad k0)), (1, .ref (ad k1))] := hl
  unfold mX3_countOrders at hf
  refine lv_aload_n hx hb (dc tbX3_countOrders_0_k 0 rfl) rfl (lv_at hl 1 rfl) ?_
  obtain ⟨r2, q1, hf⟩ := cap_s hf
  refine g_callVi hx hb hml hown hts hK hap hsx hI (tX1_allBends l hk1 q1 H.size) cv_X1_allBends q_t3_108 rfl rfl ⟨Nat.le_of_ble_eq_true rfl, Nat.le_of_ble_eq_true rfl⟩ hk1.1 (by simp) rfl rfl rfl hl.1 rfl (Nat.le_of_ble_eq_true rfl) (dc tbX3_countOrders_0_k 1 rfl) ⟨Nat.le_of_ble_eq_true rfl, Nat.le_of_ble_eq_true rfl⟩ (fun H locs hI => ?_)
  refine lv_istore_n (lv' := [(2, .int r2), (0, .ref (ad k0)), (1, .ref (ad k1))]) hx hb (dc tbX3_countOrders_0_k 2 rfl) rfl hl (by decide) rfl (fun ls hl => ?_)
  refine lv_sipush (v := 255) hx hb (dc tbX3_countOrders_0_k 3 rfl) sp_255 ?_
  refine lv_istore_n (lv' := [(3, .int (255 : Int32)), (2, .int r2), (0, .ref (ad k0)), (1, .ref (ad k1))]) hx hb (dc tbX3_countOrders_0_k 4 rfl) rfl hl (by decide) rfl (fun ls hl => ?_)
  exact tX3_countOrders_l9 C hk0 hk1 5000 r2 (255 : Int32) M hf _ _ _ hI (lv_sub hl [2, 1, 0] rfl)
theorem cv_X3_countOrders : cvF RX3 yX3_countOrders cX3_countOrders 5 none 1 := ⟨q_t3_106, q_s1_10, q_t1_6, q_t3_107, by decide +kernel⟩
def mX3_costThrough_b48 (k0 : Nat) (k1 : Nat) (M : Mem) (x2 : Int32) (x3 : Int32) (x4 : Int32) (x5 : Int32) (y0 : Int32) : Option Int32 := ite2 (y0 = (-1 : Int32)) (some (-1 : Int32)) (chk (okb ((x2 * (16 : Int32)) + x5) 4096) (cap (mX1_priceBetween k1 x3 x4 x5 (rd M (k0 + 20) (((x2 * (16 : Int32)) + x5)).toNatClampNeg) M) (fun r14 => some (y0 + r14))))
set_option maxHeartbeats 4000000 in
set_option maxRecDepth 100000 in
theorem tX3_costThrough_b48 {p : Program} {l : Launch} {e : Env} {s : State} {m : MethodId} {args : Array Value} {below : List Frame} {meth : Method} {c : Code} {G : GT} {kd : Nat → Nat × Nat} {ad : Nat → Nat} (C : Cx p s m args meth c cX3_costThrough 9 (some .int) RX3 G kd ad) {k0 : Nat} {k1 : Nat} (hk0 : kPlanner kd k0) (hk1 : kPart kd k1) {M : Mem} {vo : Int32}   : ∀ (x2 : Int32) (x3 : Int32) (x4 : Int32) (x5 : Int32) (y0 : Int32), mX3_costThrough_b48 k0 k1 M x2 x3 x4 x5 y0 = some vo → At p l e (rmO 2 0 0) s m args below meth c 0 0 (MQ below (Qg G kd ad s.heap.size M (some (.int vo))) args s 0 0 (AS kd ad s.heap.size)) G kd ad 9 48 [(0, .ref (ad k0)), (1, .ref (ad k1)), (2, .int x2), (3, .int x3), (4, .int x4), (5, .int x5)] [.int y0] M := by
  intro x2 x3 x4 x5 y0 hf H locs ls hI hl
  obtain ⟨hx, hb, hml, hr, hown, hts, hlk, hK, hap, hsx⟩ := id C
  unfold mX3_costThrough_b48 at hf
  refine lv_istore (lv' := [(8, .int y0), (0, .ref (ad k0)), (1, .ref (ad k1)), (2, .int x2), (3, .int x3), (4, .int x4), (5, .int x5)]) hx hb (dc tbX3_costThrough_0_k 26 rfl) hl (by decide) rfl (fun ls hl => ?_)
  refine lv_iload hx hb (dc tbX3_costThrough_0_k 27 rfl) (lv_at hl 0 rfl) ?_
  refine lv_iconst (v := -1) hx hb (dc tbX3_costThrough_0_k 28 rfl) ic_m1 ?_
  refine lv_icmp_ne (tgt := 58) hx hb (dc tbX3_costThrough_0_k 29 rfl) rfl (fun c11 => ?_) (fun c11 => ?_)
  · have hf := ite_f c11 hf
    refine lv_iload hx hb (dc tbX3_costThrough_0_k 32 rfl) (lv_at hl 0 rfl) ?_
    refine lv_aload_n hx hb (dc tbX3_costThrough_0_k 33 rfl) rfl (lv_at hl 2 rfl) ?_
    refine lv_iload_n hx hb (dc tbX3_costThrough_0_k 34 rfl) rfl (lv_at hl 4 rfl) ?_
    refine lv_iload hx hb (dc tbX3_costThrough_0_k 35 rfl) (lv_at hl 5 rfl) ?_
    refine lv_iload hx hb (dc tbX3_costThrough_0_k 36 rfl) (lv_at hl 6 rfl) ?_
    refine lv_aload_n hx hb (dc tbX3_costThrough_0_k 37 rfl) rfl (lv_at hl 1 rfl) ?_
    refine gg3_10 hx hb hts hown hK hI hk0.1 q_t2_18 (dc tbX3_costThrough_0_k 38 rfl) ?_
    refine lv_iload_n hx hb (dc tbX3_costThrough_0_k 39 rfl) rfl (lv_at hl 3 rfl) ?_
    refine lv_bipush (v := 16) hx hb (dc tbX3_costThrough_1_k 0 rfl) bp_16 ?_
    refine lv_imul hx hb (dc tbX3_costThrough_1_k 1 rfl) ?_
    refine lv_iload hx hb (dc tbX3_costThrough_1_k 2 rfl) (lv_at hl 6 rfl) ?_
    refine lv_iadd hx hb (dc tbX3_costThrough_1_k 3 rfl) ?_
    obtain ⟨h12, hf⟩ := chk_s hf
    refine g_iald hx hb hK hI hk0.2.2.2.2.2.2.2.1 (okb_in h12) (dc tbX3_costThrough_1_k 4 rfl) ?_
    obtain ⟨r14, q13, hf⟩ := cap_s hf
    refine g_callVi hx hb hml hown hts hK hap hsx hI (tX1_priceBetween l hk1 q13 H.size) cv_X1_priceBetween q_t3_125 rfl rfl ⟨Nat.le_of_ble_eq_true rfl, Nat.le_of_ble_eq_true rfl⟩ hk1.1 (by simp) rfl rfl rfl hl.1 rfl (Nat.le_of_ble_eq_true rfl) (dc tbX3_costThrough_1_k 5 rfl) ⟨Nat.le_of_ble_eq_true rfl, Nat.le_of_ble_eq_true rfl⟩ (fun H locs hI => ?_)
    refine lv_iadd hx hb (dc tbX3_costThrough_1_k 6 rfl) ?_
    cases hf
    exact g_iret hx hb hr hlk hI (dc tbX3_costThrough_1_k 7 rfl)
  · have hf := ite_t c11 hf
    refine lv_iconst (v := -1) hx hb (dc tbX3_costThrough_0_k 30 rfl) ic_m1 ?_
    cases hf
    exact g_iret hx hb hr hlk hI (dc tbX3_costThrough_0_k 31 rfl)
def mX3_costThrough (k0 : Nat) (k1 : Nat) (x2 : Int32) (x3 : Int32) (x4 : Int32) (x5 : Int32) (x6 : Int32) (M : Mem) : Option Int32 := cap (mX3_isOpen k0 x2 x5 M) (fun r2 => ite2 (r2 = 0) (some (-1 : Int32)) (cap (mX3_setBehind x2 x5 M) (fun r6 => bnd (((r6 * (16 : Int32)) + x5)) (fun x7_24 => ite2 (x6 = 0) (chk (okb x7_24 4096) (mX3_costThrough_b48 k0 k1 M x2 x3 x4 x5 (rd M (k0 + 22) (x7_24).toNatClampNeg))) (chk (okb x7_24 4096) (mX3_costThrough_b48 k0 k1 M x2 x3 x4 x5 (rd M (k0 + 21) (x7_24).toNatClampNeg)))))))
set_option maxHeartbeats 4000000 in
set_option maxRecDepth 100000 in
theorem tX3_costThrough (l : Launch) {G : GT} {kd : Nat → Nat × Nat} {ad : Nat → Nat} {k0 : Nat} {k1 : Nat} (hk0 : kPlanner kd k0) (hk1 : kPart kd k1) {x2 : Int32} {x3 : Int32} {x4 : Int32} {x5 : Int32} {x6 : Int32} {M : Mem} {vo : Int32} (hf : mX3_costThrough k0 k1 x2 x3 x4 x5 x6 M = some vo) (n : Nat) : Met l yX3_costThrough (Cond.code yX3_costThrough cX3_costThrough 9 (some .int) :: WA) (rmO 2 0 0) (Pg G kd ad n [.ref (ad k0), .ref (ad k1), .int x2, .int x3, .int x4, .int x5, .int x6] M) (Qg G kd ad n M (some (.int vo))) 0 0 (AS kd ad n) := by
  refine g_body (own := RX3) (by decide) rfl ?_ (Nat.le_of_ble_eq_true rfl)
  intro p e s m args below meth c C _ H locs ls hI hl
  obtain ⟨hx, hb, hml, hr, hown, hts, hlk, hK, hap, hsx⟩ := id C
  have hl : lv_has ls 9 [(0, .ref (ad k0)), (1, .ref (ad k1)), (2, .int x2), (3, .int x3), (4, .int x4), (5, .int x5), (6, .int x6)] := hl
  unfold mX3_costThrough at hf
  refine lv_aload_n hx hb (dc tbX3_costThrough_0_k 0 rfl) rfl (lv_at hl 0 rfl) ?_
  refine lv_iload_n hx hb (dc tbX3_costThrough_0_k 1 rfl) rfl (lv_at hl 2 rfl) ?_
  refine lv_iload hx hb (dc tbX3_costThrough_0_k 2 rfl) (lv_at hl 5 rfl) ?_
  obtain ⟨r2, q1, hf⟩ := cap_s hf
  refine g_callVi hx hb hml hown hts hK hap hsx hI (tX3_isOpen l hk0 q1 H.size) cv_X3_isOpen q_t3_97 rfl rfl ⟨Nat.le_of_ble_eq_true rfl, Nat.le_of_ble_eq_true rfl⟩ hk0.1 (by simp) rfl rfl rfl hl.1 rfl (Nat.le_of_ble_eq_true rfl) (dc tbX3_costThrough_0_k 3 rfl) ⟨Nat.le_of_ble_eq_true rfl, Nat.le_of_ble_eq_true rfl⟩ (fun H locs hI => ?_)
  refine lv_if_ne (tgt := 12) hx hb (dc tbX3_costThrough_0_k 4 rfl) rfl (fun c4 => ?_) (fun c4 => ?_)
  · have hf := ite_f c4 hf
    refine lv_iload_n hx hb (dc tbX3_costThrough_0_k 7 rfl) rfl (lv_at hl 2 rfl) ?_
    refine lv_iload hx hb (dc tbX3_costThrough_0_k 8 rfl) (lv_at hl 5 rfl) ?_
    obtain ⟨r6, q5, hf⟩ := cap_s hf
    refine g_callSi hx hb hml hown hts hK hap hsx hI (tX3_setBehind l  q5 H.size) cs_X3_setBehind q_t3_101 rfl rfl ⟨Nat.le_of_ble_eq_true rfl, Nat.le_of_ble_eq_true rfl⟩ rfl hl.1 rfl (Nat.le_of_ble_eq_true rfl) (dc tbX3_costThrough_0_k 9 rfl) ⟨Nat.le_of_ble_eq_true rfl, Nat.le_of_ble_eq_true rfl⟩ (fun H locs hI => ?_)
    refine lv_bipush (v := 16) hx hb (dc tbX3_costThrough_0_k 10 rfl) bp_16 ?_
    refine lv_imul hx hb (dc tbX3_costThrough_0_k 11 rfl) ?_
    refine lv_iload hx hb (dc tbX3_costThrough_0_k 12 rfl) (lv_at hl 5 rfl) ?_
    refine lv_iadd hx hb (dc tbX3_costThrough_0_k 13 rfl) ?_
    obtain ⟨x7_24, e8, hf⟩ := bnd_s hf
    refine lv_ei e8 ?_
    refine lv_istore (lv' := [(7, .int x7_24), (0, .ref (ad k0)), (1, .ref (ad k1)), (2, .int x2), (3, .int x3), (4, .int x4), (5, .int x5), (6, .int x6)]) hx hb (dc tbX3_costThrough_0_k 14 rfl) hl (by decide) rfl (fun ls hl => ?_)
    refine lv_iload hx hb (dc tbX3_costThrough_0_k 15 rfl) (lv_at hl 7 rfl) ?_
    refine lv_if_eq (tgt := 41) hx hb (dc tbX3_costThrough_0_k 16 rfl) rfl (fun c9 => ?_) (fun c9 => ?_)
    · have hf := ite_t c9 hf
      refine lv_aload_n hx hb (dc tbX3_costThrough_0_k 22 rfl) rfl (lv_at hl 1 rfl) ?_
      refine gg3_12 hx hb hts hown hK hI hk0.1 q_t2_20 (dc tbX3_costThrough_0_k 23 rfl) ?_
      refine lv_iload hx hb (dc tbX3_costThrough_0_k 24 rfl) (lv_at hl 0 rfl) ?_
      obtain ⟨h10, hf⟩ := chk_s hf
      refine g_iald hx hb hK hI hk0.2.2.2.2.2.2.2.2.2 (okb_in h10) (dc tbX3_costThrough_0_k 25 rfl) ?_
      exact tX3_costThrough_b48 C hk0 hk1 x2 x3 x4 x5 (rd M (k0 + 22) (x7_24).toNatClampNeg) hf _ _ _ hI (lv_sub hl [1, 2, 3, 4, 5, 6] rfl)
    · have hf := ite_f c9 hf
      refine lv_aload_n hx hb (dc tbX3_costThrough_0_k 17 rfl) rfl (lv_at hl 1 rfl) ?_
      refine gg3_11 hx hb hts hown hK hI hk0.1 q_t2_19 (dc tbX3_costThrough_0_k 18 rfl) ?_
      refine lv_iload hx hb (dc tbX3_costThrough_0_k 19 rfl) (lv_at hl 0 rfl) ?_
      obtain ⟨h16, hf⟩ := chk_s hf
      refine g_iald hx hb hK hI hk0.2.2.2.2.2.2.2.2.1 (okb_in h16) (dc tbX3_costThrough_0_k 20 rfl) ?_
      refine lv_goto (tgt := 48) hx hb (dc tbX3_costThrough_0_k 21 rfl) rfl ?_
      exact tX3_costThrough_b48 C hk0 hk1 x2 x3 x4 x5 (rd M (k0 + 21) (x7_24).toNatClampNeg) hf _ _ _ hI (lv_sub hl [1, 2, 3, 4, 5, 6] rfl)
  · have hf := ite_t c4 hf
    refine lv_iconst (v := -1) hx hb (dc tbX3_costThrough_0_k 5 rfl) ic_m1 ?_
    cases hf
    exact g_iret hx hb hr hlk hI (dc tbX3_costThrough_0_k 6 rfl)
theorem cv_X3_costThrough : cvF RX3 yX3_costThrough cX3_costThrough 9 (some .int) 6 := ⟨q_t3_123, q_s1_14, q_t1_6, q_t3_124, by decide +kernel⟩
def mX3_costOnward_b88 (k0 : Nat) (k1 : Nat) (M : Mem) (ih16 : Int32 → Int32 → Int32 → Int32 → Int32 → Int32 → Option Int32) (x2 : Int32) (x3 : Int32) (x4 : Int32) (x5 : Int32) (x6 : Int32) (x7 : Int32) : Option Int32 := bnd (x7 + (1 : Int32)) (fun x7_88 => ih16 x2 x3 x4 x5 x6 x7_88)
set_option maxHeartbeats 4000000 in
set_option maxRecDepth 100000 in
theorem tX3_costOnward_b88 {p : Program} {l : Launch} {e : Env} {s : State} {m : MethodId} {args : Array Value} {below : List Frame} {meth : Method} {c : Code} {G : GT} {kd : Nat → Nat × Nat} {ad : Nat → Nat} (C : Cx p s m args meth c cX3_costOnward 10 (some .int) RX3 G kd ad) {k0 : Nat} {k1 : Nat} (hk0 : kPlanner kd k0) (hk1 : kPart kd k1) {M : Mem} {vo : Int32} {ih16 : Int32 → Int32 → Int32 → Int32 → Int32 → Int32 → Option Int32} (hih16 : ∀ (x2 : Int32) (x3 : Int32) (x4 : Int32) (x5 : Int32) (x6 : Int32) (x7 : Int32), ih16 x2 x3 x4 x5 x6 x7 = some vo → At p l e (rmO 3 0 0) s m args below meth c 0 0 (MQ below (Qg G kd ad s.heap.size M (some (.int vo))) args s 0 0 (AS kd ad s.heap.size)) G kd ad 10 16 [(0, .ref (ad k0)), (1, .ref (ad k1)), (2, .int x2), (3, .int x3), (4, .int x4), (5, .int x5), (6, .int x6), (7, .int x7)] [] M) : ∀ (x2 : Int32) (x3 : Int32) (x4 : Int32) (x5 : Int32) (x6 : Int32) (x7 : Int32), mX3_costOnward_b88 k0 k1 M ih16 x2 x3 x4 x5 x6 x7 = some vo → At p l e (rmO 3 0 0) s m args below meth c 0 0 (MQ below (Qg G kd ad s.heap.size M (some (.int vo))) args s 0 0 (AS kd ad s.heap.size)) G kd ad 10 88 [(0, .ref (ad k0)), (1, .ref (ad k1)), (2, .int x2), (3, .int x3), (4, .int x4), (5, .int x5), (6, .int x6), (7, .int x7)] [] M := by
  intro x2 x3 x4 x5 x6 x7 hf H locs ls hI hl
  obtain ⟨hx, hb, hml, hr, hown, hts, hlk, hK, hap, hsx⟩ := id C
  unfold mX3_costOnward_b88 at hf
  obtain ⟨x7_88, e11, hf⟩ := bnd_s hf
  refine lv_iinc (v := x7_88) (lv' := [(7, .int x7_88), (0, .ref (ad k0)), (1, .ref (ad k1)), (2, .int x2), (3, .int x3), (4, .int x4), (5, .int x5), (6, .int x6)]) hx hb (dc tbX3_costOnward_1_k 5 rfl) hl (k := 7) rfl (ii_e e11 ic_1) (by decide) rfl (fun ls hl => ?_)
  refine lv_goto (tgt := 16) hx hb (dc tbX3_costOnward_1_k 6 rfl) rfl ?_
  exact hih16 x2 x3 x4 x5 x6 x7_88 hf _ _ _ hI (lv_sub hl [1, 2, 3, 4, 5, 6, 7, 0] rfl)
def mX3_costOnward_b71 (k0 : Nat) (k1 : Nat) (M : Mem) (ih16 : Int32 → Int32 → Int32 → Int32 → Int32 → Int32 → Option Int32) (x2 : Int32) (x3 : Int32) (x4 : Int32) (x5 : Int32) (x6 : Int32) (x7 : Int32) (x8 : Int32) (y0 : Int32) : Option Int32 := ite2 (x8 = (-1 : Int32)) (mX3_costOnward_b88 k0 k1 M ih16 x2 x3 x4 x5 x6 x7) (ite2 (y0 = 0) (mX3_costOnward_b88 k0 k1 M ih16 x2 x3 x4 x5 x6 x7) (mX3_costOnward_b88 k0 k1 M ih16 x2 x3 x4 x5 x8 x7))
set_option maxHeartbeats 4000000 in
set_option maxRecDepth 100000 in
theorem tX3_costOnward_b71 {p : Program} {l : Launch} {e : Env} {s : State} {m : MethodId} {args : Array Value} {below : List Frame} {meth : Method} {c : Code} {G : GT} {kd : Nat → Nat × Nat} {ad : Nat → Nat} (C : Cx p s m args meth c cX3_costOnward 10 (some .int) RX3 G kd ad) {k0 : Nat} {k1 : Nat} (hk0 : kPlanner kd k0) (hk1 : kPart kd k1) {M : Mem} {vo : Int32} {ih16 : Int32 → Int32 → Int32 → Int32 → Int32 → Int32 → Option Int32} (hih16 : ∀ (x2 : Int32) (x3 : Int32) (x4 : Int32) (x5 : Int32) (x6 : Int32) (x7 : Int32), ih16 x2 x3 x4 x5 x6 x7 = some vo → At p l e (rmO 3 0 0) s m args below meth c 0 0 (MQ below (Qg G kd ad s.heap.size M (some (.int vo))) args s 0 0 (AS kd ad s.heap.size)) G kd ad 10 16 [(0, .ref (ad k0)), (1, .ref (ad k1)), (2, .int x2), (3, .int x3), (4, .int x4), (5, .int x5), (6, .int x6), (7, .int x7)] [] M) : ∀ (x2 : Int32) (x3 : Int32) (x4 : Int32) (x5 : Int32) (x6 : Int32) (x7 : Int32) (x8 : Int32) (y0 : Int32), mX3_costOnward_b71 k0 k1 M ih16 x2 x3 x4 x5 x6 x7 x8 y0 = some vo → At p l e (rmO 3 0 0) s m args below meth c 0 0 (MQ below (Qg G kd ad s.heap.size M (some (.int vo))) args s 0 0 (AS kd ad s.heap.size)) G kd ad 10 71 [(0, .ref (ad k0)), (1, .ref (ad k1)), (2, .int x2), (3, .int x3), (4, .int x4), (5, .int x5), (6, .int x6), (7, .int x7), (8, .int x8)] [.int y0] M := by
  intro x2 x3 x4 x5 x6 x7 x8 y0 hf H locs ls hI hl
  obtain ⟨hx, hb, hml, hr, hown, hts, hlk, hK, hap, hsx⟩ := id C
  unfold mX3_costOnward_b71 at hf
  refine lv_istore (lv' := [(9, .int y0), (0, .ref (ad k0)), (1, .ref (ad k1)), (2, .int x2), (3, .int x3), (4, .int x4), (5, .int x5), (6, .int x6), (7, .int x7), (8, .int x8)]) hx hb (dc tbX3_costOnward_0_k 37 rfl) hl (by decide) rfl (fun ls hl => ?_)
  refine lv_iload hx hb (dc tbX3_costOnward_0_k 38 rfl) (lv_at hl 9 rfl) ?_
  refine lv_iconst (v := -1) hx hb (dc tbX3_costOnward_0_k 39 rfl) ic_m1 ?_
  refine lv_icmp_eq (tgt := 88) hx hb (dc tbX3_costOnward_1_k 0 rfl) rfl (fun c10 => ?_) (fun c10 => ?_)
  · have hf := ite_t c10 hf
    exact tX3_costOnward_b88 C hk0 hk1 hih16 x2 x3 x4 x5 x6 x7 hf _ _ _ hI (lv_sub hl [1, 2, 3, 4, 5, 6, 7, 8] rfl)
  · have hf := ite_f c10 hf
    refine lv_iload hx hb (dc tbX3_costOnward_1_k 1 rfl) (lv_at hl 0 rfl) ?_
    refine lv_if_eq (tgt := 88) hx hb (dc tbX3_costOnward_1_k 2 rfl) rfl (fun c12 => ?_) (fun c12 => ?_)
    · have hf := ite_t c12 hf
      exact tX3_costOnward_b88 C hk0 hk1 hih16 x2 x3 x4 x5 x6 x7 hf _ _ _ hI (lv_sub hl [1, 2, 3, 4, 5, 6, 7, 8] rfl)
    · have hf := ite_f c12 hf
      refine lv_iload hx hb (dc tbX3_costOnward_1_k 3 rfl) (lv_at hl 9 rfl) ?_
      refine lv_istore (lv' := [(6, .int x8), (9, .int y0), (0, .ref (ad k0)), (1, .ref (ad k1)), (2, .int x2), (3, .int x3), (4, .int x4), (5, .int x5), (7, .int x7), (8, .int x8)]) hx hb (dc tbX3_costOnward_1_k 4 rfl) hl (by decide) rfl (fun ls hl => ?_)
      exact tX3_costOnward_b88 C hk0 hk1 hih16 x2 x3 x4 x5 x8 x7 hf _ _ _ hI (lv_sub hl [2, 3, 4, 5, 6, 7, 0, 8] rfl)
def mX3_costOnward_b66 (k0 : Nat) (k1 : Nat) (M : Mem) (ih16 : Int32 → Int32 → Int32 → Int32 → Int32 → Int32 → Option Int32) (x2 : Int32) (x3 : Int32) (x4 : Int32) (x5 : Int32) (x6 : Int32) (x7 : Int32) (x8 : Int32) : Option Int32 := mX3_costOnward_b71 k0 k1 M ih16 x2 x3 x4 x5 x6 x7 x8 (1 : Int32)
set_option maxHeartbeats 4000000 in
set_option maxRecDepth 100000 in
theorem tX3_costOnward_b66 {p : Program} {l : Launch} {e : Env} {s : State} {m : MethodId} {args : Array Value} {below : List Frame} {meth : Method} {c : Code} {G : GT} {kd : Nat → Nat × Nat} {ad : Nat → Nat} (C : Cx p s m args meth c cX3_costOnward 10 (some .int) RX3 G kd ad) {k0 : Nat} {k1 : Nat} (hk0 : kPlanner kd k0) (hk1 : kPart kd k1) {M : Mem} {vo : Int32} {ih16 : Int32 → Int32 → Int32 → Int32 → Int32 → Int32 → Option Int32} (hih16 : ∀ (x2 : Int32) (x3 : Int32) (x4 : Int32) (x5 : Int32) (x6 : Int32) (x7 : Int32), ih16 x2 x3 x4 x5 x6 x7 = some vo → At p l e (rmO 3 0 0) s m args below meth c 0 0 (MQ below (Qg G kd ad s.heap.size M (some (.int vo))) args s 0 0 (AS kd ad s.heap.size)) G kd ad 10 16 [(0, .ref (ad k0)), (1, .ref (ad k1)), (2, .int x2), (3, .int x3), (4, .int x4), (5, .int x5), (6, .int x6), (7, .int x7)] [] M) : ∀ (x2 : Int32) (x3 : Int32) (x4 : Int32) (x5 : Int32) (x6 : Int32) (x7 : Int32) (x8 : Int32), mX3_costOnward_b66 k0 k1 M ih16 x2 x3 x4 x5 x6 x7 x8 = some vo → At p l e (rmO 3 0 0) s m args below meth c 0 0 (MQ below (Qg G kd ad s.heap.size M (some (.int vo))) args s 0 0 (AS kd ad s.heap.size)) G kd ad 10 66 [(0, .ref (ad k0)), (1, .ref (ad k1)), (2, .int x2), (3, .int x3), (4, .int x4), (5, .int x5), (6, .int x6), (7, .int x7), (8, .int x8)] [] M := by
  intro x2 x3 x4 x5 x6 x7 x8 hf H locs ls hI hl
  obtain ⟨hx, hb, hml, hr, hown, hts, hlk, hK, hap, hsx⟩ := id C
  unfold mX3_costOnward_b66 at hf
  refine lv_iconst (v := 1) hx hb (dc tbX3_costOnward_0_k 34 rfl) ic_1 ?_
  refine lv_goto (tgt := 71) hx hb (dc tbX3_costOnward_0_k 35 rfl) rfl ?_
  exact tX3_costOnward_b71 C hk0 hk1 hih16 x2 x3 x4 x5 x6 x7 x8 (1 : Int32) hf _ _ _ hI (lv_sub hl [0, 1, 2, 3, 4, 5, 6, 7, 8] rfl)
def mX3_costOnward_b70 (k0 : Nat) (k1 : Nat) (M : Mem) (ih16 : Int32 → Int32 → Int32 → Int32 → Int32 → Int32 → Option Int32) (x2 : Int32) (x3 : Int32) (x4 : Int32) (x5 : Int32) (x6 : Int32) (x7 : Int32) (x8 : Int32) : Option Int32 := mX3_costOnward_b71 k0 k1 M ih16 x2 x3 x4 x5 x6 x7 x8 (0 : Int32)
set_option maxHeartbeats 4000000 in
set_option maxRecDepth 100000 in
theorem tX3_costOnward_b70 {p : Program} {l : Launch} {e : Env} {s : State} {m : MethodId} {args : Array Value} {below : List Frame} {meth : Method} {c : Code} {G : GT} {kd : Nat → Nat × Nat} {ad : Nat → Nat} (C : Cx p s m args meth c cX3_costOnward 10 (some .int) RX3 G kd ad) {k0 : Nat} {k1 : Nat} (hk0 : kPlanner kd k0) (hk1 : kPart kd k1) {M : Mem} {vo : Int32} {ih16 : Int32 → Int32 → Int32 → Int32 → Int32 → Int32 → Option Int32} (hih16 : ∀ (x2 : Int32) (x3 : Int32) (x4 : Int32) (x5 : Int32) (x6 : Int32) (x7 : Int32), ih16 x2 x3 x4 x5 x6 x7 = some vo → At p l e (rmO 3 0 0) s m args below meth c 0 0 (MQ below (Qg G kd ad s.heap.size M (some (.int vo))) args s 0 0 (AS kd ad s.heap.size)) G kd ad 10 16 [(0, .ref (ad k0)), (1, .ref (ad k1)), (2, .int x2), (3, .int x3), (4, .int x4), (5, .int x5), (6, .int x6), (7, .int x7)] [] M) : ∀ (x2 : Int32) (x3 : Int32) (x4 : Int32) (x5 : Int32) (x6 : Int32) (x7 : Int32) (x8 : Int32), mX3_costOnward_b70 k0 k1 M ih16 x2 x3 x4 x5 x6 x7 x8 = some vo → At p l e (rmO 3 0 0) s m args below meth c 0 0 (MQ below (Qg G kd ad s.heap.size M (some (.int vo))) args s 0 0 (AS kd ad s.heap.size)) G kd ad 10 70 [(0, .ref (ad k0)), (1, .ref (ad k1)), (2, .int x2), (3, .int x3), (4, .int x4), (5, .int x5), (6, .int x6), (7, .int x7), (8, .int x8)] [] M := by
  intro x2 x3 x4 x5 x6 x7 x8 hf H locs ls hI hl
  obtain ⟨hx, hb, hml, hr, hown, hts, hlk, hK, hap, hsx⟩ := id C
  unfold mX3_costOnward_b70 at hf
  refine lv_iconst (v := 0) hx hb (dc tbX3_costOnward_0_k 36 rfl) ic_0 ?_
  exact tX3_costOnward_b71 C hk0 hk1 hih16 x2 x3 x4 x5 x6 x7 x8 (0 : Int32) hf _ _ _ hI (lv_sub hl [0, 1, 2, 3, 4, 5, 6, 7, 8] rfl)
def mX3_costOnward_b16 (k0 : Nat) (k1 : Nat) (M : Mem) (ih16 : Int32 → Int32 → Int32 → Int32 → Int32 → Int32 → Option Int32) (x2 : Int32) (x3 : Int32) (x4 : Int32) (x5 : Int32) (x6 : Int32) (x7 : Int32) : Option Int32 := ite2 ((16 : Int32) ≤ x7) (some x6) (cap (mX3_costThrough k0 k1 x2 x3 x4 x7 x5 M) (fun r7 => ite2 (x6 = (-1 : Int32)) (mX3_costOnward_b66 k0 k1 M ih16 x2 x3 x4 x5 x6 x7 r7) (ite2 (x5 = 0) (ite2 (r7 ≤ x6) (mX3_costOnward_b70 k0 k1 M ih16 x2 x3 x4 x5 x6 x7 r7) (mX3_costOnward_b66 k0 k1 M ih16 x2 x3 x4 x5 x6 x7 r7)) (ite2 (x6 ≤ r7) (mX3_costOnward_b70 k0 k1 M ih16 x2 x3 x4 x5 x6 x7 r7) (mX3_costOnward_b66 k0 k1 M ih16 x2 x3 x4 x5 x6 x7 r7)))))
set_option maxHeartbeats 4000000 in
set_option maxRecDepth 100000 in
theorem tX3_costOnward_b16 {p : Program} {l : Launch} {e : Env} {s : State} {m : MethodId} {args : Array Value} {below : List Frame} {meth : Method} {c : Code} {G : GT} {kd : Nat → Nat × Nat} {ad : Nat → Nat} (C : Cx p s m args meth c cX3_costOnward 10 (some .int) RX3 G kd ad) {k0 : Nat} {k1 : Nat} (hk0 : kPlanner kd k0) (hk1 : kPart kd k1) {M : Mem} {vo : Int32} {ih16 : Int32 → Int32 → Int32 → Int32 → Int32 → Int32 → Option Int32} (hih16 : ∀ (x2 : Int32) (x3 : Int32) (x4 : Int32) (x5 : Int32) (x6 : Int32) (x7 : Int32), ih16 x2 x3 x4 x5 x6 x7 = some vo → At p l e (rmO 3 0 0) s m args below meth c 0 0 (MQ below (Qg G kd ad s.heap.size M (some (.int vo))) args s 0 0 (AS kd ad s.heap.size)) G kd ad 10 16 [(0, .ref (ad k0)), (1, .ref (ad k1)), (2, .int x2), (3, .int x3), (4, .int x4), (5, .int x5), (6, .int x6), (7, .int x7)] [] M) : ∀ (x2 : Int32) (x3 : Int32) (x4 : Int32) (x5 : Int32) (x6 : Int32) (x7 : Int32), mX3_costOnward_b16 k0 k1 M ih16 x2 x3 x4 x5 x6 x7 = some vo → At p l e (rmO 3 0 0) s m args below meth c 0 0 (MQ below (Qg G kd ad s.heap.size M (some (.int vo))) args s 0 0 (AS kd ad s.heap.size)) G kd ad 10 16 [(0, .ref (ad k0)), (1, .ref (ad k1)), (2, .int x2), (3, .int x3), (4, .int x4), (5, .int x5), (6, .int x6), (7, .int x7)] [] M := by
  intro x2 x3 x4 x5 x6 x7 hf H locs ls hI hl
  obtain ⟨hx, hb, hml, hr, hown, hts, hlk, hK, hap, hsx⟩ := id C
  unfold mX3_costOnward_b16 at hf
  refine lv_iload hx hb (dc tbX3_costOnward_0_k 10 rfl) (lv_at hl 7 rfl) ?_
  refine lv_bipush (v := 16) hx hb (dc tbX3_costOnward_0_k 11 rfl) bp_16 ?_
  refine lv_icmp_ge (tgt := 94) hx hb (dc tbX3_costOnward_0_k 12 rfl) rfl (fun c5 => ?_) (fun c5 => ?_)
  · have hf := ite_t c5 hf
    refine lv_iload hx hb (dc tbX3_costOnward_1_k 7 rfl) (lv_at hl 6 rfl) ?_
    cases hf
    exact g_iret hx hb hr hlk hI (dc tbX3_costOnward_1_k 8 rfl)
  · have hf := ite_f c5 hf
    refine lv_aload_n hx hb (dc tbX3_costOnward_0_k 13 rfl) rfl (lv_at hl 0 rfl) ?_
    refine lv_aload_n hx hb (dc tbX3_costOnward_0_k 14 rfl) rfl (lv_at hl 1 rfl) ?_
    refine lv_iload_n hx hb (dc tbX3_costOnward_0_k 15 rfl) rfl (lv_at hl 2 rfl) ?_
    refine lv_iload_n hx hb (dc tbX3_costOnward_0_k 16 rfl) rfl (lv_at hl 3 rfl) ?_
    refine lv_iload hx hb (dc tbX3_costOnward_0_k 17 rfl) (lv_at hl 4 rfl) ?_
    refine lv_iload hx hb (dc tbX3_costOnward_0_k 18 rfl) (lv_at hl 7 rfl) ?_
    refine lv_iload hx hb (dc tbX3_costOnward_0_k 19 rfl) (lv_at hl 5 rfl) ?_
    obtain ⟨r7, q6, hf⟩ := cap_s hf
    refine g_callVi hx hb hml hown hts hK hap hsx hI (tX3_costThrough l hk0 hk1 q6 H.size) cv_X3_costThrough q_t3_121 rfl rfl ⟨Nat.le_of_ble_eq_true rfl, Nat.le_of_ble_eq_true rfl⟩ hk0.1 (by simp) rfl rfl rfl hl.1 rfl (Nat.le_of_ble_eq_true rfl) (dc tbX3_costOnward_0_k 20 rfl) ⟨Nat.le_of_ble_eq_true rfl, Nat.le_of_ble_eq_true rfl⟩ (fun H locs hI => ?_)
    refine lv_istore (lv' := [(8, .int r7), (0, .ref (ad k0)), (1, .ref (ad k1)), (2, .int x2), (3, .int x3), (4, .int x4), (5, .int x5), (6, .int x6), (7, .int x7)]) hx hb (dc tbX3_costOnward_0_k 21 rfl) hl (by decide) rfl (fun ls hl => ?_)
    refine lv_iload hx hb (dc tbX3_costOnward_0_k 22 rfl) (lv_at hl 7 rfl) ?_
    refine lv_iconst (v := -1) hx hb (dc tbX3_costOnward_0_k 23 rfl) ic_m1 ?_
    refine lv_icmp_eq (tgt := 66) hx hb (dc tbX3_costOnward_0_k 24 rfl) rfl (fun c9 => ?_) (fun c9 => ?_)
    · have hf := ite_t c9 hf
      exact tX3_costOnward_b66 C hk0 hk1 hih16 x2 x3 x4 x5 x6 x7 r7 hf _ _ _ hI (lv_sub hl [1, 2, 3, 4, 5, 6, 7, 8, 0] rfl)
    · have hf := ite_f c9 hf
      refine lv_iload hx hb (dc tbX3_costOnward_0_k 25 rfl) (lv_at hl 6 rfl) ?_
      refine lv_if_eq (tgt := 59) hx hb (dc tbX3_costOnward_0_k 26 rfl) rfl (fun c13 => ?_) (fun c13 => ?_)
      · have hf := ite_t c13 hf
        refine lv_iload hx hb (dc tbX3_costOnward_0_k 31 rfl) (lv_at hl 0 rfl) ?_
        refine lv_iload hx hb (dc tbX3_costOnward_0_k 32 rfl) (lv_at hl 7 rfl) ?_
        refine lv_icmp_le (tgt := 70) hx hb (dc tbX3_costOnward_0_k 33 rfl) rfl (fun c14 => ?_) (fun c14 => ?_)
        · have hf := ite_t c14 hf
          exact tX3_costOnward_b70 C hk0 hk1 hih16 x2 x3 x4 x5 x6 x7 r7 hf _ _ _ hI (lv_sub hl [1, 2, 3, 4, 5, 6, 7, 8, 0] rfl)
        · have hf := ite_f c14 hf
          exact tX3_costOnward_b66 C hk0 hk1 hih16 x2 x3 x4 x5 x6 x7 r7 hf _ _ _ hI (lv_sub hl [1, 2, 3, 4, 5, 6, 7, 8, 0] rfl)
      · have hf := ite_f c13 hf
        refine lv_iload hx hb (dc tbX3_costOnward_0_k 27 rfl) (lv_at hl 0 rfl) ?_
        refine lv_iload hx hb (dc tbX3_costOnward_0_k 28 rfl) (lv_at hl 7 rfl) ?_
        refine lv_icmp_ge (tgt := 70) hx hb (dc tbX3_costOnward_0_k 29 rfl) rfl (fun c15 => ?_) (fun c15 => ?_)
        · have hf := ite_t c15 hf
          exact tX3_costOnward_b70 C hk0 hk1 hih16 x2 x3 x4 x5 x6 x7 r7 hf _ _ _ hI (lv_sub hl [1, 2, 3, 4, 5, 6, 7, 8, 0] rfl)
        · have hf := ite_f c15 hf
          refine lv_goto (tgt := 66) hx hb (dc tbX3_costOnward_0_k 30 rfl) rfl ?_
          exact tX3_costOnward_b66 C hk0 hk1 hih16 x2 x3 x4 x5 x6 x7 r7 hf _ _ _ hI (lv_sub hl [1, 2, 3, 4, 5, 6, 7, 8, 0] rfl)
def mX3_costOnward_l16 (k0 : Nat) (k1 : Nat) (M : Mem) : Nat → Int32 → Int32 → Int32 → Int32 → Int32 → Int32 → Option Int32
  | 0 => fun _ _ _ _ _ _ => none
  | n + 1 => mX3_costOnward_b16 k0 k1 M (mX3_costOnward_l16 k0 k1 M n)
theorem tX3_costOnward_l16 {p : Program} {l : Launch} {e : Env} {s : State} {m : MethodId} {args : Array Value} {below : List Frame} {meth : Method} {c : Code} {G : GT} {kd : Nat → Nat × Nat} {ad : Nat → Nat} (C : Cx p s m args meth c cX3_costOnward 10 (some .int) RX3 G kd ad) {k0 : Nat} {k1 : Nat} (hk0 : kPlanner kd k0) (hk1 : kPart kd k1) {M : Mem} {vo : Int32}   : ∀ (fuel : Nat) (x2 : Int32) (x3 : Int32) (x4 : Int32) (x5 : Int32) (x6 : Int32) (x7 : Int32), mX3_costOnward_l16 k0 k1 M fuel x2 x3 x4 x5 x6 x7 = some vo → At p l e (rmO 3 0 0) s m args below meth c 0 0 (MQ below (Qg G kd ad s.heap.size M (some (.int vo))) args s 0 0 (AS kd ad s.heap.size)) G kd ad 10 16 [(0, .ref (ad k0)), (1, .ref (ad k1)), (2, .int x2), (3, .int x3), (4, .int x4), (5, .int x5), (6, .int x6), (7, .int x7)] [] M := by
  intro fuel
  induction fuel with
  | zero => intro x2 x3 x4 x5 x6 x7 hf; cases hf
  | succ n IH => exact tX3_costOnward_b16 C hk0 hk1 IH
def mX3_costOnward (k0 : Nat) (k1 : Nat) (x2 : Int32) (x3 : Int32) (x4 : Int32) (x5 : Int32) (M : Mem) : Option Int32 := cap (mX1_allBends k1 M) (fun r2 => ite2 (x2 = r2) (some (0 : Int32)) (mX3_costOnward_l16 k0 k1 M 5000 x2 x3 x4 x5 (-1 : Int32) (0 : Int32)))
set_option maxHeartbeats 4000000 in
set_option maxRecDepth 100000 in
theorem tX3_costOnward (l : Launch) {G : GT} {kd : Nat → Nat × Nat} {ad : Nat → Nat} {k0 : Nat} {k1 : Nat} (hk0 : kPlanner kd k0) (hk1 : kPart kd k1) {x2 : Int32} {x3 : Int32} {x4 : Int32} {x5 : Int32} {M : Mem} {vo : Int32} (hf : mX3_costOnward k0 k1 x2 x3 x4 x5 M = some vo) (n : Nat) : Met l yX3_costOnward (Cond.code yX3_costOnward cX3_costOnward 10 (some .int) :: WA) (rmO 3 0 0) (Pg G kd ad n [.ref (ad k0), .ref (ad k1), .int x2, .int x3, .int x4, .int x5] M) (Qg G kd ad n M (some (.int vo))) 0 0 (AS kd ad n) := by
  refine g_body (own := RX3) (by decide) rfl ?_ (Nat.le_of_ble_eq_true rfl)
  intro p e s m args below meth c C _ H locs ls hI hl
  obtain ⟨hx, hb, hml, hr, hown, hts, hlk, hK, hap, hsx⟩ := id C
  have hl : lv_has ls 10 [(0, .ref (ad k0)), (1, .ref (ad k1)), (2, .int x2), (3, .int x3), (4, .int x4), (5, .int x5)] := hl
  unfold mX3_costOnward at hf
  refine lv_iload_n hx hb (dc tbX3_costOnward_0_k 0 rfl) rfl (lv_at hl 2 rfl) ?_
  refine lv_aload_n hx hb (dc tbX3_costOnward_0_k 1 rfl) rfl (lv_at hl 1 rfl) ?_
  obtain ⟨r2, q1, hf⟩ := cap_s hf
  refine g_callVi hx hb hml hown hts hK hap hsx hI (tX1_allBends l hk1 q1 H.size) cv_X1_allBends q_t3_108 rfl rfl ⟨Nat.le_of_ble_eq_true rfl, Nat.le_of_ble_eq_true rfl⟩ hk1.1 (by simp) rfl rfl rfl hl.1 rfl (Nat.le_of_ble_eq_true rfl) (dc tbX3_costOnward_0_k 2 rfl) ⟨Nat.le_of_ble_eq_true rfl, Nat.le_of_ble_eq_true rfl⟩ (fun H locs hI => ?_)
  refine lv_icmp_ne (tgt := 10) hx hb (dc tbX3_costOnward_0_k 3 rfl) rfl (fun c4 => ?_) (fun c4 => ?_)
  · have hf := ite_f c4 hf
    refine lv_iconst (v := -1) hx hb (dc tbX3_costOnward_0_k 6 rfl) ic_m1 ?_
    refine lv_istore (lv' := [(6, .int (-1 : Int32)), (0, .ref (ad k0)), (1, .ref (ad k1)), (2, .int x2), (3, .int x3), (4, .int x4), (5, .int x5)]) hx hb (dc tbX3_costOnward_0_k 7 rfl) hl (by decide) rfl (fun ls hl => ?_)
    refine lv_iconst (v := 0) hx hb (dc tbX3_costOnward_0_k 8 rfl) ic_0 ?_
    refine lv_istore (lv' := [(7, .int (0 : Int32)), (6, .int (-1 : Int32)), (0, .ref (ad k0)), (1, .ref (ad k1)), (2, .int x2), (3, .int x3), (4, .int x4), (5, .int x5)]) hx hb (dc tbX3_costOnward_0_k 9 rfl) hl (by decide) rfl (fun ls hl => ?_)
    exact tX3_costOnward_l16 C hk0 hk1 5000 x2 x3 x4 x5 (-1 : Int32) (0 : Int32) hf _ _ _ hI (lv_sub hl [2, 3, 4, 5, 6, 7, 1, 0] rfl)
  · have hf := ite_t c4 hf
    refine lv_iconst (v := 0) hx hb (dc tbX3_costOnward_0_k 4 rfl) ic_0 ?_
    cases hf
    exact g_iret hx hb hr hlk hI (dc tbX3_costOnward_0_k 5 rfl)
theorem cv_X3_costOnward : cvF RX3 yX3_costOnward cX3_costOnward 10 (some .int) 5 := ⟨q_t3_119, q_s1_13, q_t1_6, q_t3_120, by decide +kernel⟩
def mX3_reckonCostsBehind_b101 (k0 : Nat) (k1 : Nat) (ih2 : Int32 → Int32 → Mem → Option (Mem × Unit)) (x2 : Int32) (x3 : Int32) (M : Mem) : Option (Mem × Unit) := bnd (x3 + (1 : Int32)) (fun x3_101 => ih2 x2 x3_101 M)
set_option maxHeartbeats 4000000 in
set_option maxRecDepth 100000 in
theorem tX3_reckonCostsBehind_b101 {p : Program} {l : Launch} {e : Env} {s : State} {m : MethodId} {args : Array Value} {below : List Frame} {meth : Method} {c : Code} {G : GT} {kd : Nat → Nat × Nat} {ad : Nat → Nat} (C : Cx p s m args meth c cX3_reckonCostsBehind 6 none RX3 G kd ad) {k0 : Nat} {k1 : Nat} (hk0 : kPlanner kd k0) (hk1 : kPart kd k1) {MO : Mem} {vo : Unit} {ih2 : Int32 → Int32 → Mem → Option (Mem × Unit)} (hih2 : ∀ (x2 : Int32) (x3 : Int32) (M : Mem), ih2 x2 x3 M = some (MO, vo) → At p l e (rmO 4 0 0) s m args below meth c 0 0 (MQ below (Qg G kd ad s.heap.size MO none) args s 0 0 (AS kd ad s.heap.size)) G kd ad 6 2 [(0, .ref (ad k0)), (1, .ref (ad k1)), (2, .int x2), (3, .int x3)] [] M) : ∀ (x2 : Int32) (x3 : Int32) (M : Mem), mX3_reckonCostsBehind_b101 k0 k1 ih2 x2 x3 M = some (MO, vo) → At p l e (rmO 4 0 0) s m args below meth c 0 0 (MQ below (Qg G kd ad s.heap.size MO none) args s 0 0 (AS kd ad s.heap.size)) G kd ad 6 101 [(0, .ref (ad k0)), (1, .ref (ad k1)), (2, .int x2), (3, .int x3)] [] M := by
  intro x2 x3 M hf H locs ls hI hl
  obtain ⟨hx, hb, hml, hr, hown, hts, hlk, hK, hap, hsx⟩ := id C
  unfold mX3_reckonCostsBehind_b101 at hf
  obtain ⟨x3_101, e4, hf⟩ := bnd_s hf
  refine lv_iinc (v := x3_101) (lv' := [(3, .int x3_101), (0, .ref (ad k0)), (1, .ref (ad k1)), (2, .int x2)]) hx hb (dc tbX3_reckonCostsBehind_1_k 27 rfl) hl (k := 3) rfl (ii_e e4 ic_1) (by decide) rfl (fun ls hl => ?_)
  refine lv_goto (tgt := 2) hx hb (dc tbX3_reckonCostsBehind_1_k 28 rfl) rfl ?_
  exact hih2 x2 x3_101 M hf _ _ _ hI (lv_sub hl [1, 2, 3, 0] rfl)
def mX3_reckonCostsBehind_b2 (k0 : Nat) (k1 : Nat) (ih2 : Int32 → Int32 → Mem → Option (Mem × Unit)) (x2 : Int32) (x3 : Int32) (M : Mem) : Option (Mem × Unit) := ite2 ((16 : Int32) ≤ x3) (some (M, ())) (bnd ((x2 &&& (((1 : Int32) <<< ((x3 >>> ((1 : Int32) &&& 31)) &&& 31)) ^^^ (-1 : Int32)))) (fun x4_17 => ite2 (x4_17 = x2) (mX3_reckonCostsBehind_b101 k0 k1 ih2 x2 x3 M) (chk (okb x4_17 256) (ite2 ((rd M (k0 + 18) (x4_17).toNatClampNeg) = 0) (mX3_reckonCostsBehind_b101 k0 k1 ih2 x2 x3 M) (cap (mX3_isOpen k0 x4_17 x3 M) (fun r8 => ite2 (r8 = 0) (mX3_reckonCostsBehind_b101 k0 k1 ih2 x2 x3 M) (chk (okb ((x4_17 * (16 : Int32)) + x3) 4096) (bnd ((rd M (k0 + 20) (((x4_17 * (16 : Int32)) + x3)).toNatClampNeg)) (fun x5_57 => cap (mX3_costOnward k0 k1 x2 x3 x5_57 (1 : Int32) M) (fun r14 => chk (okb ((x2 * (16 : Int32)) + x3) 4096) (bnd (wr M (k0 + 21) (((x2 * (16 : Int32)) + x3)).toNatClampNeg r14) (fun M18 => cap (mX3_costOnward k0 k1 x2 x3 x5_57 (0 : Int32) M18) (fun r20 => chk (okb ((x2 * (16 : Int32)) + x3) 4096) (bnd (wr M18 (k0 + 22) (((x2 * (16 : Int32)) + x3)).toNatClampNeg r20) (fun M24 => mX3_reckonCostsBehind_b101 k0 k1 ih2 x2 x3 M24)))))))))))))))
set_option maxHeartbeats 4000000 in
set_option maxRecDepth 100000 in
theorem tX3_reckonCostsBehind_b2 {p : Program} {l : Launch} {e : Env} {s : State} {m : MethodId} {args : Array Value} {below : List Frame} {meth : Method} {c : Code} {G : GT} {kd : Nat → Nat × Nat} {ad : Nat → Nat} (C : Cx p s m args meth c cX3_reckonCostsBehind 6 none RX3 G kd ad) {k0 : Nat} {k1 : Nat} (hk0 : kPlanner kd k0) (hk1 : kPart kd k1) {MO : Mem} {vo : Unit} {ih2 : Int32 → Int32 → Mem → Option (Mem × Unit)} (hih2 : ∀ (x2 : Int32) (x3 : Int32) (M : Mem), ih2 x2 x3 M = some (MO, vo) → At p l e (rmO 4 0 0) s m args below meth c 0 0 (MQ below (Qg G kd ad s.heap.size MO none) args s 0 0 (AS kd ad s.heap.size)) G kd ad 6 2 [(0, .ref (ad k0)), (1, .ref (ad k1)), (2, .int x2), (3, .int x3)] [] M) : ∀ (x2 : Int32) (x3 : Int32) (M : Mem), mX3_reckonCostsBehind_b2 k0 k1 ih2 x2 x3 M = some (MO, vo) → At p l e (rmO 4 0 0) s m args below meth c 0 0 (MQ below (Qg G kd ad s.heap.size MO none) args s 0 0 (AS kd ad s.heap.size)) G kd ad 6 2 [(0, .ref (ad k0)), (1, .ref (ad k1)), (2, .int x2), (3, .int x3)] [] M := by
  intro x2 x3 M hf H locs ls hI hl
  obtain ⟨hx, hb, hml, hr, hown, hts, hlk, hK, hap, hsx⟩ := id C
  unfold mX3_reckonCostsBehind_b2 at hf
  refine lv_iload_n hx hb (dc tbX3_reckonCostsBehind_0_k 2 rfl) rfl (lv_at hl 3 rfl) ?_
  refine lv_bipush (v := 16) hx hb (dc tbX3_reckonCostsBehind_0_k 3 rfl) bp_16 ?_
  refine lv_icmp_ge (tgt := 107) hx hb (dc tbX3_reckonCostsBehind_0_k 4 rfl) rfl (fun c1 => ?_) (fun c1 => ?_)
  · have hf := ite_t c1 hf
    cases hf
    exact g_vret hx hb hr hlk hI (dc tbX3_reckonCostsBehind_1_k 29 rfl)
  · have hf := ite_f c1 hf
    refine lv_iload_n hx hb (dc tbX3_reckonCostsBehind_0_k 5 rfl) rfl (lv_at hl 2 rfl) ?_
    refine lv_iconst (v := 1) hx hb (dc tbX3_reckonCostsBehind_0_k 6 rfl) ic_1 ?_
    refine lv_iload_n hx hb (dc tbX3_reckonCostsBehind_0_k 7 rfl) rfl (lv_at hl 3 rfl) ?_
    refine lv_iconst (v := 1) hx hb (dc tbX3_reckonCostsBehind_0_k 8 rfl) ic_1 ?_
    refine lv_ishr hx hb (dc tbX3_reckonCostsBehind_0_k 9 rfl) ?_
    refine lv_ishl hx hb (dc tbX3_reckonCostsBehind_0_k 10 rfl) ?_
    refine lv_iconst (v := -1) hx hb (dc tbX3_reckonCostsBehind_0_k 11 rfl) ic_m1 ?_
    refine lv_ixor hx hb (dc tbX3_reckonCostsBehind_0_k 12 rfl) ?_
    refine lv_iand hx hb (dc tbX3_reckonCostsBehind_0_k 13 rfl) ?_
    obtain ⟨x4_17, e2, hf⟩ := bnd_s hf
    refine lv_ei e2 ?_
    refine lv_istore (lv' := [(4, .int x4_17), (0, .ref (ad k0)), (1, .ref (ad k1)), (2, .int x2), (3, .int x3)]) hx hb (dc tbX3_reckonCostsBehind_0_k 14 rfl) hl (by decide) rfl (fun ls hl => ?_)
    refine lv_iload hx hb (dc tbX3_reckonCostsBehind_0_k 15 rfl) (lv_at hl 0 rfl) ?_
    refine lv_iload_n hx hb (dc tbX3_reckonCostsBehind_0_k 16 rfl) rfl (lv_at hl 3 rfl) ?_
    refine lv_icmp_eq (tgt := 101) hx hb (dc tbX3_reckonCostsBehind_0_k 17 rfl) rfl (fun c3 => ?_) (fun c3 => ?_)
    · have hf := ite_t c3 hf
      exact tX3_reckonCostsBehind_b101 C hk0 hk1 hih2 x2 x3 M hf _ _ _ hI (lv_sub hl [1, 2, 3, 4] rfl)
    · have hf := ite_f c3 hf
      refine lv_aload_n hx hb (dc tbX3_reckonCostsBehind_0_k 18 rfl) rfl (lv_at hl 1 rfl) ?_
      refine gg3_8 hx hb hts hown hK hI hk0.1 q_t2_16 (dc tbX3_reckonCostsBehind_0_k 19 rfl) ?_
      refine lv_iload hx hb (dc tbX3_reckonCostsBehind_0_k 20 rfl) (lv_at hl 0 rfl) ?_
      obtain ⟨h5, hf⟩ := chk_s hf
      refine g_zald hx hb hK hI hk0.2.2.2.2.2.1 (okb_in h5) (dc tbX3_reckonCostsBehind_0_k 21 rfl) ?_
      refine lv_if_eq (tgt := 101) hx hb (dc tbX3_reckonCostsBehind_0_k 22 rfl) rfl (fun c6 => ?_) (fun c6 => ?_)
      · have hf := ite_t c6 hf
        exact tX3_reckonCostsBehind_b101 C hk0 hk1 hih2 x2 x3 M hf _ _ _ hI (lv_sub hl [1, 2, 3, 4] rfl)
      · have hf := ite_f c6 hf
        refine lv_aload_n hx hb (dc tbX3_reckonCostsBehind_0_k 23 rfl) rfl (lv_at hl 1 rfl) ?_
        refine lv_iload hx hb (dc tbX3_reckonCostsBehind_0_k 24 rfl) (lv_at hl 0 rfl) ?_
        refine lv_iload_n hx hb (dc tbX3_reckonCostsBehind_0_k 25 rfl) rfl (lv_at hl 4 rfl) ?_
        obtain ⟨r8, q7, hf⟩ := cap_s hf
        refine g_callVi hx hb hml hown hts hK hap hsx hI (tX3_isOpen l hk0 q7 H.size) cv_X3_isOpen q_t3_97 rfl rfl ⟨Nat.le_of_ble_eq_true rfl, Nat.le_of_ble_eq_true rfl⟩ hk0.1 (by simp) rfl rfl rfl hl.1 rfl (Nat.le_of_ble_eq_true rfl) (dc tbX3_reckonCostsBehind_0_k 26 rfl) ⟨Nat.le_of_ble_eq_true rfl, Nat.le_of_ble_eq_true rfl⟩ (fun H locs hI => ?_)
        refine lv_if_eq (tgt := 101) hx hb (dc tbX3_reckonCostsBehind_0_k 27 rfl) rfl (fun c10 => ?_) (fun c10 => ?_)
        · have hf := ite_t c10 hf
          exact tX3_reckonCostsBehind_b101 C hk0 hk1 hih2 x2 x3 M hf _ _ _ hI (lv_sub hl [1, 2, 3, 4] rfl)
        · have hf := ite_f c10 hf
          refine lv_aload_n hx hb (dc tbX3_reckonCostsBehind_0_k 28 rfl) rfl (lv_at hl 1 rfl) ?_
          refine gg3_10 hx hb hts hown hK hI hk0.1 q_t2_18 (dc tbX3_reckonCostsBehind_0_k 29 rfl) ?_
          refine lv_iload hx hb (dc tbX3_reckonCostsBehind_0_k 30 rfl) (lv_at hl 0 rfl) ?_
          refine lv_bipush (v := 16) hx hb (dc tbX3_reckonCostsBehind_0_k 31 rfl) bp_16 ?_
          refine lv_imul hx hb (dc tbX3_reckonCostsBehind_0_k 32 rfl) ?_
          refine lv_iload_n hx hb (dc tbX3_reckonCostsBehind_0_k 33 rfl) rfl (lv_at hl 4 rfl) ?_
          refine lv_iadd hx hb (dc tbX3_reckonCostsBehind_0_k 34 rfl) ?_
          obtain ⟨h11, hf⟩ := chk_s hf
          refine g_iald hx hb hK hI hk0.2.2.2.2.2.2.2.1 (okb_in h11) (dc tbX3_reckonCostsBehind_0_k 35 rfl) ?_
          obtain ⟨x5_57, e12, hf⟩ := bnd_s hf
          refine lv_ei e12 ?_
          refine lv_istore (lv' := [(5, .int x5_57), (4, .int x4_17), (0, .ref (ad k0)), (1, .ref (ad k1)), (2, .int x2), (3, .int x3)]) hx hb (dc tbX3_reckonCostsBehind_0_k 36 rfl) hl (by decide) rfl (fun ls hl => ?_)
          refine lv_aload_n hx hb (dc tbX3_reckonCostsBehind_0_k 37 rfl) rfl (lv_at hl 2 rfl) ?_
          refine gg3_11 hx hb hts hown hK hI hk0.1 q_t2_19 (dc tbX3_reckonCostsBehind_0_k 38 rfl) ?_
          refine lv_iload_n hx hb (dc tbX3_reckonCostsBehind_0_k 39 rfl) rfl (lv_at hl 4 rfl) ?_
          refine lv_bipush (v := 16) hx hb (dc tbX3_reckonCostsBehind_1_k 0 rfl) bp_16 ?_
          refine lv_imul hx hb (dc tbX3_reckonCostsBehind_1_k 1 rfl) ?_
          refine lv_iload_n hx hb (dc tbX3_reckonCostsBehind_1_k 2 rfl) rfl (lv_at hl 5 rfl) ?_
          refine lv_iadd hx hb (dc tbX3_reckonCostsBehind_1_k 3 rfl) ?_
          refine lv_aload_n hx hb (dc tbX3_reckonCostsBehind_1_k 4 rfl) rfl (lv_at hl 2 rfl) ?_
          refine lv_aload_n hx hb (dc tbX3_reckonCostsBehind_1_k 5 rfl) rfl (lv_at hl 3 rfl) ?_
          refine lv_iload_n hx hb (dc tbX3_reckonCostsBehind_1_k 6 rfl) rfl (lv_at hl 4 rfl) ?_
          refine lv_iload_n hx hb (dc tbX3_reckonCostsBehind_1_k 7 rfl) rfl (lv_at hl 5 rfl) ?_
          refine lv_iload hx hb (dc tbX3_reckonCostsBehind_1_k 8 rfl) (lv_at hl 0 rfl) ?_
          refine lv_iconst (v := 1) hx hb (dc tbX3_reckonCostsBehind_1_k 9 rfl) ic_1 ?_
          obtain ⟨r14, q13, hf⟩ := cap_s hf
          refine g_callVi hx hb hml hown hts hK hap hsx hI (tX3_costOnward l hk0 hk1 q13 H.size) cv_X3_costOnward q_t3_117 rfl rfl ⟨Nat.le_of_ble_eq_true rfl, Nat.le_of_ble_eq_true rfl⟩ hk0.1 (by simp) rfl rfl rfl hl.1 rfl (Nat.le_of_ble_eq_true rfl) (dc tbX3_reckonCostsBehind_1_k 10 rfl) ⟨Nat.le_of_ble_eq_true rfl, Nat.le_of_ble_eq_true rfl⟩ (fun H locs hI => ?_)
          obtain ⟨h16, hf⟩ := chk_s hf
          obtain ⟨M18, e17, hf⟩ := bnd_s hf
          refine g_iast hx hb hK hap hI hk0.2.2.2.2.2.2.2.2.1 (okb_in h16) (dc tbX3_reckonCostsBehind_1_k 11 rfl) e17 (fun H locs hI => ?_)
          refine lv_aload_n hx hb (dc tbX3_reckonCostsBehind_1_k 12 rfl) rfl (lv_at hl 2 rfl) ?_
          refine gg3_12 hx hb hts hown hK hI hk0.1 q_t2_20 (dc tbX3_reckonCostsBehind_1_k 13 rfl) ?_
          refine lv_iload_n hx hb (dc tbX3_reckonCostsBehind_1_k 14 rfl) rfl (lv_at hl 4 rfl) ?_
          refine lv_bipush (v := 16) hx hb (dc tbX3_reckonCostsBehind_1_k 15 rfl) bp_16 ?_
          refine lv_imul hx hb (dc tbX3_reckonCostsBehind_1_k 16 rfl) ?_
          refine lv_iload_n hx hb (dc tbX3_reckonCostsBehind_1_k 17 rfl) rfl (lv_at hl 5 rfl) ?_
          refine lv_iadd hx hb (dc tbX3_reckonCostsBehind_1_k 18 rfl) ?_
          refine lv_aload_n hx hb (dc tbX3_reckonCostsBehind_1_k 19 rfl) rfl (lv_at hl 2 rfl) ?_
          refine lv_aload_n hx hb (dc tbX3_reckonCostsBehind_1_k 20 rfl) rfl (lv_at hl 3 rfl) ?_
          refine lv_iload_n hx hb (dc tbX3_reckonCostsBehind_1_k 21 rfl) rfl (lv_at hl 4 rfl) ?_
          refine lv_iload_n hx hb (dc tbX3_reckonCostsBehind_1_k 22 rfl) rfl (lv_at hl 5 rfl) ?_
          refine lv_iload hx hb (dc tbX3_reckonCostsBehind_1_k 23 rfl) (lv_at hl 0 rfl) ?_
          refine lv_iconst (v := 0) hx hb (dc tbX3_reckonCostsBehind_1_k 24 rfl) ic_0 ?_
          obtain ⟨r20, q19, hf⟩ := cap_s hf
          refine g_callVi hx hb hml hown hts hK hap hsx hI (tX3_costOnward l hk0 hk1 q19 H.size) cv_X3_costOnward q_t3_117 rfl rfl ⟨Nat.le_of_ble_eq_true rfl, Nat.le_of_ble_eq_true rfl⟩ hk0.1 (by simp) rfl rfl rfl hl.1 rfl (Nat.le_of_ble_eq_true rfl) (dc tbX3_reckonCostsBehind_1_k 25 rfl) ⟨Nat.le_of_ble_eq_true rfl, Nat.le_of_ble_eq_true rfl⟩ (fun H locs hI => ?_)
          obtain ⟨h22, hf⟩ := chk_s hf
          obtain ⟨M24, e23, hf⟩ := bnd_s hf
          refine g_iast hx hb hK hap hI hk0.2.2.2.2.2.2.2.2.2 (okb_in h22) (dc tbX3_reckonCostsBehind_1_k 26 rfl) e23 (fun H locs hI => ?_)
          exact tX3_reckonCostsBehind_b101 C hk0 hk1 hih2 x2 x3 M24 hf _ _ _ hI (lv_sub hl [2, 3, 4, 5] rfl)
def mX3_reckonCostsBehind_l2 (k0 : Nat) (k1 : Nat) : Nat → Int32 → Int32 → Mem → Option (Mem × Unit)
  | 0 => fun _ _ _ => none
  | n + 1 => mX3_reckonCostsBehind_b2 k0 k1 (mX3_reckonCostsBehind_l2 k0 k1 n)
theorem tX3_reckonCostsBehind_l2 {p : Program} {l : Launch} {e : Env} {s : State} {m : MethodId} {args : Array Value} {below : List Frame} {meth : Method} {c : Code} {G : GT} {kd : Nat → Nat × Nat} {ad : Nat → Nat} (C : Cx p s m args meth c cX3_reckonCostsBehind 6 none RX3 G kd ad) {k0 : Nat} {k1 : Nat} (hk0 : kPlanner kd k0) (hk1 : kPart kd k1) {MO : Mem} {vo : Unit}   : ∀ (fuel : Nat) (x2 : Int32) (x3 : Int32) (M : Mem), mX3_reckonCostsBehind_l2 k0 k1 fuel x2 x3 M = some (MO, vo) → At p l e (rmO 4 0 0) s m args below meth c 0 0 (MQ below (Qg G kd ad s.heap.size MO none) args s 0 0 (AS kd ad s.heap.size)) G kd ad 6 2 [(0, .ref (ad k0)), (1, .ref (ad k1)), (2, .int x2), (3, .int x3)] [] M := by
  intro fuel
  induction fuel with
  | zero => intro x2 x3 M hf; cases hf
  | succ n IH => exact tX3_reckonCostsBehind_b2 C hk0 hk1 IH
def mX3_reckonCostsBehind (k0 : Nat) (k1 : Nat) (x2 : Int32) (M : Mem) : Option (Mem × Unit) := mX3_reckonCostsBehind_l2 k0 k1 5000 x2 (0 : Int32) M
set_option maxHeartbeats 4000000 in
set_option maxRecDepth 100000 in
theorem tX3_reckonCostsBehind (l : Launch) {G : GT} {kd : Nat → Nat × Nat} {ad : Nat → Nat} {k0 : Nat} {k1 : Nat} (hk0 : kPlanner kd k0) (hk1 : kPart kd k1) {x2 : Int32} {M : Mem} {MO : Mem} {vo : Unit} (hf : mX3_reckonCostsBehind k0 k1 x2 M = some (MO, vo)) (n : Nat) : Met l yX3_reckonCostsBehind (Cond.code yX3_reckonCostsBehind cX3_reckonCostsBehind 6 none :: WA) (rmO 4 0 0) (Pg G kd ad n [.ref (ad k0), .ref (ad k1), .int x2] M) (Qg G kd ad n MO none) 0 0 (AS kd ad n) := by
  refine g_body (own := RX3) (by decide) rfl ?_ (Nat.le_of_ble_eq_true rfl)
  intro p e s m args below meth c C _ H locs ls hI hl
  obtain ⟨hx, hb, hml, hr, hown, hts, hlk, hK, hap, hsx⟩ := id C
  have hl : lv_has ls 6 [(0, .ref (ad k0)), (1, .ref (ad k1)), (2, .int x2)] := hl
  unfold mX3_reckonCostsBehind at hf
  refine lv_iconst (v := 0) hx hb (dc tbX3_reckonCostsBehind_0_k 0 rfl) ic_0 ?_
  refine lv_istore_n (lv' := [(3, .int (0 : Int32)), (0, .ref (ad k0)), (1, .ref (ad k1)), (2, .int x2)]) hx hb (dc tbX3_reckonCostsBehind_0_k 1 rfl) rfl hl (by decide) rfl (fun ls hl => ?_)
  exact tX3_reckonCostsBehind_l2 C hk0 hk1 5000 x2 (0 : Int32) M hf _ _ _ hI (lv_sub hl [1, 2, 3, 0] rfl)
theorem cv_X3_reckonCostsBehind : cvF RX3 yX3_reckonCostsBehind cX3_reckonCostsBehind 6 none 2 := ⟨q_t3_115, q_s1_12, q_t1_6, q_t3_116, by decide +kernel⟩
def mX3_reckonCosts_b27 (k0 : Nat) (k1 : Nat) (ih4 : Int32 → Mem → Option (Mem × Unit)) (x2 : Int32) (M : Mem) : Option (Mem × Unit) := bnd (x2 + (-1 : Int32)) (fun x2_27 => ih4 x2_27 M)
set_option maxHeartbeats 4000000 in
set_option maxRecDepth 100000 in
theorem tX3_reckonCosts_b27 {p : Program} {l : Launch} {e : Env} {s : State} {m : MethodId} {args : Array Value} {below : List Frame} {meth : Method} {c : Code} {G : GT} {kd : Nat → Nat × Nat} {ad : Nat → Nat} (C : Cx p s m args meth c cX3_reckonCosts 3 none RX3 G kd ad) {k0 : Nat} {k1 : Nat} (hk0 : kPlanner kd k0) (hk1 : kPart kd k1) {MO : Mem} {vo : Unit} {ih4 : Int32 → Mem → Option (Mem × Unit)} (hih4 : ∀ (x2 : Int32) (M : Mem), ih4 x2 M = some (MO, vo) → At p l e (rmO 5 0 0) s m args below meth c 0 0 (MQ below (Qg G kd ad s.heap.size MO none) args s 0 0 (AS kd ad s.heap.size)) G kd ad 3 4 [(0, .ref (ad k0)), (1, .ref (ad k1)), (2, .int x2)] [] M) : ∀ (x2 : Int32) (M : Mem), mX3_reckonCosts_b27 k0 k1 ih4 x2 M = some (MO, vo) → At p l e (rmO 5 0 0) s m args below meth c 0 0 (MQ below (Qg G kd ad s.heap.size MO none) args s 0 0 (AS kd ad s.heap.size)) G kd ad 3 27 [(0, .ref (ad k0)), (1, .ref (ad k1)), (2, .int x2)] [] M := by
  intro x2 M hf H locs ls hI hl
  obtain ⟨hx, hb, hml, hr, hown, hts, hlk, hK, hap, hsx⟩ := id C
  unfold mX3_reckonCosts_b27 at hf
  obtain ⟨x2_27, e26, hf⟩ := bnd_s hf
  refine lv_iinc (v := x2_27) (lv' := [(2, .int x2_27), (0, .ref (ad k0)), (1, .ref (ad k1))]) hx hb (dc tbX3_reckonCosts_0_k 15 rfl) hl (k := 2) rfl (ii_e e26 ic_m1) (by decide) rfl (fun ls hl => ?_)
  refine lv_goto (tgt := 4) hx hb (dc tbX3_reckonCosts_0_k 16 rfl) rfl ?_
  exact hih4 x2_27 M hf _ _ _ hI (lv_sub hl [1, 2, 0] rfl)
def mX3_reckonCosts_b4 (k0 : Nat) (k1 : Nat) (ih4 : Int32 → Mem → Option (Mem × Unit)) (x2 : Int32) (M : Mem) : Option (Mem × Unit) := ite2 (x2 ≤ (rd M k1 13)) (cap (mX1_lastCode k1 M) (fun r3 => cap (mX1_lastGauge k1 M) (fun r6 => cap (mX3_costOnward k0 k1 (rd M k1 13) r3 r6 (1 : Int32) M) (fun r9 => bnd (wr M k0 0 r9) (fun M11 => cap (mX1_lastCode k1 M11) (fun r14 => cap (mX1_lastGauge k1 M11) (fun r17 => cap (mX3_costOnward k0 k1 (rd M11 k1 13) r14 r17 (0 : Int32) M11) (fun r20 => bnd (wr M11 k0 1 r20) (fun M22 => some (M22, ())))))))))) (chk (okb x2 256) (ite2 ((rd M (k0 + 18) (x2).toNatClampNeg) = 0) (mX3_reckonCosts_b27 k0 k1 ih4 x2 M) (cal (mX3_reckonCostsBehind k0 k1 x2 M) (fun M29 _ => mX3_reckonCosts_b27 k0 k1 ih4 x2 M29))))
set_option maxHeartbeats 4000000 in
set_option maxRecDepth 100000 in
theorem tX3_reckonCosts_b4 {p : Program} {l : Launch} {e : Env} {s : State} {m : MethodId} {args : Array Value} {below : List Frame} {meth : Method} {c : Code} {G : GT} {kd : Nat → Nat × Nat} {ad : Nat → Nat} (C : Cx p s m args meth c cX3_reckonCosts 3 none RX3 G kd ad) {k0 : Nat} {k1 : Nat} (hk0 : kPlanner kd k0) (hk1 : kPart kd k1) {MO : Mem} {vo : Unit} {ih4 : Int32 → Mem → Option (Mem × Unit)} (hih4 : ∀ (x2 : Int32) (M : Mem), ih4 x2 M = some (MO, vo) → At p l e (rmO 5 0 0) s m args below meth c 0 0 (MQ below (Qg G kd ad s.heap.size MO none) args s 0 0 (AS kd ad s.heap.size)) G kd ad 3 4 [(0, .ref (ad k0)), (1, .ref (ad k1)), (2, .int x2)] [] M) : ∀ (x2 : Int32) (M : Mem), mX3_reckonCosts_b4 k0 k1 ih4 x2 M = some (MO, vo) → At p l e (rmO 5 0 0) s m args below meth c 0 0 (MQ below (Qg G kd ad s.heap.size MO none) args s 0 0 (AS kd ad s.heap.size)) G kd ad 3 4 [(0, .ref (ad k0)), (1, .ref (ad k1)), (2, .int x2)] [] M := by
  intro x2 M hf H locs ls hI hl
  obtain ⟨hx, hb, hml, hr, hown, hts, hlk, hK, hap, hsx⟩ := id C
  unfold mX3_reckonCosts_b4 at hf
  refine lv_iload_n hx hb (dc tbX3_reckonCosts_0_k 2 rfl) rfl (lv_at hl 2 rfl) ?_
  refine lv_aload_n hx hb (dc tbX3_reckonCosts_0_k 3 rfl) rfl (lv_at hl 1 rfl) ?_
  refine gg1_13 hx hb hts hown hK hI hk1.1 q_t1_127 (dc tbX3_reckonCosts_0_k 4 rfl) ?_
  refine lv_icmp_le (tgt := 33) hx hb (dc tbX3_reckonCosts_0_k 5 rfl) rfl (fun c1 => ?_) (fun c1 => ?_)
  · have hf := ite_t c1 hf
    refine lv_aload_n hx hb (dc tbX3_reckonCosts_0_k 17 rfl) rfl (lv_at hl 0 rfl) ?_
    refine lv_aload_n hx hb (dc tbX3_reckonCosts_0_k 18 rfl) rfl (lv_at hl 0 rfl) ?_
    refine lv_aload_n hx hb (dc tbX3_reckonCosts_0_k 19 rfl) rfl (lv_at hl 1 rfl) ?_
    refine lv_aload_n hx hb (dc tbX3_reckonCosts_0_k 20 rfl) rfl (lv_at hl 1 rfl) ?_
    refine gg1_13 hx hb hts hown hK hI hk1.1 q_t1_127 (dc tbX3_reckonCosts_0_k 21 rfl) ?_
    refine lv_aload_n hx hb (dc tbX3_reckonCosts_0_k 22 rfl) rfl (lv_at hl 1 rfl) ?_
    obtain ⟨r3, q2, hf⟩ := cap_s hf
    refine g_callVi hx hb hml hown hts hK hap hsx hI (tX1_lastCode l hk1 q2 H.size) cv_X1_lastCode q_t3_129 rfl rfl ⟨Nat.le_of_ble_eq_true rfl, Nat.le_of_ble_eq_true rfl⟩ hk1.1 (by simp) rfl rfl rfl hl.1 rfl (Nat.le_of_ble_eq_true rfl) (dc tbX3_reckonCosts_0_k 23 rfl) ⟨Nat.le_of_ble_eq_true rfl, Nat.le_of_ble_eq_true rfl⟩ (fun H locs hI => ?_)
    refine lv_aload_n hx hb (dc tbX3_reckonCosts_0_k 24 rfl) rfl (lv_at hl 1 rfl) ?_
    obtain ⟨r6, q5, hf⟩ := cap_s hf
    refine g_callVi hx hb hml hown hts hK hap hsx hI (tX1_lastGauge l hk1 q5 H.size) cv_X1_lastGauge q_t3_130 rfl rfl ⟨Nat.le_of_ble_eq_true rfl, Nat.le_of_ble_eq_true rfl⟩ hk1.1 (by simp) rfl rfl rfl hl.1 rfl (Nat.le_of_ble_eq_true rfl) (dc tbX3_reckonCosts_0_k 25 rfl) ⟨Nat.le_of_ble_eq_true rfl, Nat.le_of_ble_eq_true rfl⟩ (fun H locs hI => ?_)
    refine lv_iconst (v := 1) hx hb (dc tbX3_reckonCosts_0_k 26 rfl) ic_1 ?_
    obtain ⟨r9, q8, hf⟩ := cap_s hf
    refine g_callVi hx hb hml hown hts hK hap hsx hI (tX3_costOnward l hk0 hk1 q8 H.size) cv_X3_costOnward q_t3_117 rfl rfl ⟨Nat.le_of_ble_eq_true rfl, Nat.le_of_ble_eq_true rfl⟩ hk0.1 (by simp) rfl rfl rfl hl.1 rfl (Nat.le_of_ble_eq_true rfl) (dc tbX3_reckonCosts_0_k 27 rfl) ⟨Nat.le_of_ble_eq_true rfl, Nat.le_of_ble_eq_true rfl⟩ (fun H locs hI => ?_)
    obtain ⟨M11, e12, hf⟩ := bnd_s hf
    refine gp3_0 hx hb hts hown hK hap hI hk0.1 q_t2_4 (dc tbX3_reckonCosts_0_k 28 rfl) e12 (fun H locs hI => ?_)
    refine lv_aload_n hx hb (dc tbX3_reckonCosts_0_k 29 rfl) rfl (lv_at hl 0 rfl) ?_
    refine lv_aload_n hx hb (dc tbX3_reckonCosts_0_k 30 rfl) rfl (lv_at hl 0 rfl) ?_
    refine lv_aload_n hx hb (dc tbX3_reckonCosts_0_k 31 rfl) rfl (lv_at hl 1 rfl) ?_
    refine lv_aload_n hx hb (dc tbX3_reckonCosts_0_k 32 rfl) rfl (lv_at hl 1 rfl) ?_
    refine gg1_13 hx hb hts hown hK hI hk1.1 q_t1_127 (dc tbX3_reckonCosts_0_k 33 rfl) ?_
    refine lv_aload_n hx hb (dc tbX3_reckonCosts_0_k 34 rfl) rfl (lv_at hl 1 rfl) ?_
    obtain ⟨r14, q13, hf⟩ := cap_s hf
    refine g_callVi hx hb hml hown hts hK hap hsx hI (tX1_lastCode l hk1 q13 H.size) cv_X1_lastCode q_t3_129 rfl rfl ⟨Nat.le_of_ble_eq_true rfl, Nat.le_of_ble_eq_true rfl⟩ hk1.1 (by simp) rfl rfl rfl hl.1 rfl (Nat.le_of_ble_eq_true rfl) (dc tbX3_reckonCosts_0_k 35 rfl) ⟨Nat.le_of_ble_eq_true rfl, Nat.le_of_ble_eq_true rfl⟩ (fun H locs hI => ?_)
    refine lv_aload_n hx hb (dc tbX3_reckonCosts_0_k 36 rfl) rfl (lv_at hl 1 rfl) ?_
    obtain ⟨r17, q16, hf⟩ := cap_s hf
    refine g_callVi hx hb hml hown hts hK hap hsx hI (tX1_lastGauge l hk1 q16 H.size) cv_X1_lastGauge q_t3_130 rfl rfl ⟨Nat.le_of_ble_eq_true rfl, Nat.le_of_ble_eq_true rfl⟩ hk1.1 (by simp) rfl rfl rfl hl.1 rfl (Nat.le_of_ble_eq_true rfl) (dc tbX3_reckonCosts_0_k 37 rfl) ⟨Nat.le_of_ble_eq_true rfl, Nat.le_of_ble_eq_true rfl⟩ (fun H locs hI => ?_)
    refine lv_iconst (v := 0) hx hb (dc tbX3_reckonCosts_0_k 38 rfl) ic_0 ?_
    obtain ⟨r20, q19, hf⟩ := cap_s hf
    refine g_callVi hx hb hml hown hts hK hap hsx hI (tX3_costOnward l hk0 hk1 q19 H.size) cv_X3_costOnward q_t3_117 rfl rfl ⟨Nat.le_of_ble_eq_true rfl, Nat.le_of_ble_eq_true rfl⟩ hk0.1 (by simp) rfl rfl rfl hl.1 rfl (Nat.le_of_ble_eq_true rfl) (dc tbX3_reckonCosts_0_k 39 rfl) ⟨Nat.le_of_ble_eq_true rfl, Nat.le_of_ble_eq_true rfl⟩ (fun H locs hI => ?_)
    obtain ⟨M22, e23, hf⟩ := bnd_s hf
    refine gp3_1 hx hb hts hown hK hap hI hk0.1 q_t2_6 (dc tbX3_reckonCosts_1_k 0 rfl) e23 (fun H locs hI => ?_)
    cases hf
    exact g_vret hx hb hr hlk hI (dc tbX3_reckonCosts_1_k 1 rfl)
  · have hf := ite_f c1 hf
    refine lv_aload_n hx hb (dc tbX3_reckonCosts_0_k 6 rfl) rfl (lv_at hl 0 rfl) ?_
    refine gg3_8 hx hb hts hown hK hI hk0.1 q_t2_16 (dc tbX3_reckonCosts_0_k 7 rfl) ?_
    refine lv_iload_n hx hb (dc tbX3_reckonCosts_0_k 8 rfl) rfl (lv_at hl 2 rfl) ?_
    obtain ⟨h24, hf⟩ := chk_s hf
    refine g_zald hx hb hK hI hk0.2.2.2.2.2.1 (okb_in h24) (dc tbX3_reckonCosts_0_k 9 rfl) ?_
    refine lv_if_eq (tgt := 27) hx hb (dc tbX3_reckonCosts_0_k 10 rfl) rfl (fun c25 => ?_) (fun c25 => ?_)
    · have hf := ite_t c25 hf
      exact tX3_reckonCosts_b27 C hk0 hk1 hih4 x2 M hf _ _ _ hI (lv_sub hl [0, 1, 2] rfl)
    · have hf := ite_f c25 hf
      refine lv_aload_n hx hb (dc tbX3_reckonCosts_0_k 11 rfl) rfl (lv_at hl 0 rfl) ?_
      refine lv_aload_n hx hb (dc tbX3_reckonCosts_0_k 12 rfl) rfl (lv_at hl 1 rfl) ?_
      refine lv_iload_n hx hb (dc tbX3_reckonCosts_0_k 13 rfl) rfl (lv_at hl 2 rfl) ?_
      obtain ⟨M29, r28, q27, hf⟩ := cal_s hf
      refine g_callVv hx hb hml hown hts hK hap hsx hI (tX3_reckonCostsBehind l hk0 hk1 q27 H.size) cv_X3_reckonCostsBehind q_t3_113 rfl rfl ⟨Nat.le_of_ble_eq_true rfl, Nat.le_of_ble_eq_true rfl⟩ hk0.1 (by simp) rfl rfl rfl hl.1 rfl (Nat.le_of_ble_eq_true rfl) (dc tbX3_reckonCosts_0_k 14 rfl) ⟨Nat.le_of_ble_eq_true rfl, Nat.le_of_ble_eq_true rfl⟩ (fun H locs hI => ?_)
      exact tX3_reckonCosts_b27 C hk0 hk1 hih4 x2 M29 hf _ _ _ hI (lv_sub hl [0, 1, 2] rfl)
def mX3_reckonCosts_l4 (k0 : Nat) (k1 : Nat) : Nat → Int32 → Mem → Option (Mem × Unit)
  | 0 => fun _ _ => none
  | n + 1 => mX3_reckonCosts_b4 k0 k1 (mX3_reckonCosts_l4 k0 k1 n)
theorem tX3_reckonCosts_l4 {p : Program} {l : Launch} {e : Env} {s : State} {m : MethodId} {args : Array Value} {below : List Frame} {meth : Method} {c : Code} {G : GT} {kd : Nat → Nat × Nat} {ad : Nat → Nat} (C : Cx p s m args meth c cX3_reckonCosts 3 none RX3 G kd ad) {k0 : Nat} {k1 : Nat} (hk0 : kPlanner kd k0) (hk1 : kPart kd k1) {MO : Mem} {vo : Unit}   : ∀ (fuel : Nat) (x2 : Int32) (M : Mem), mX3_reckonCosts_l4 k0 k1 fuel x2 M = some (MO, vo) → At p l e (rmO 5 0 0) s m args below meth c 0 0 (MQ below (Qg G kd ad s.heap.size MO none) args s 0 0 (AS kd ad s.heap.size)) G kd ad 3 4 [(0, .ref (ad k0)), (1, .ref (ad k1)), (2, .int x2)] [] M := by
  intro fuel
  induction fuel with
  | zero => intro x2 M hf; cases hf
  | succ n IH => exact tX3_reckonCosts_b4 C hk0 hk1 IH
def mX3_reckonCosts (k0 : Nat) (k1 : Nat) (M : Mem) : Option (Mem × Unit) := mX3_reckonCosts_l4 k0 k1 5000 (255 : Int32) M
set_option maxHeartbeats 4000000 in
set_option maxRecDepth 100000 in
theorem tX3_reckonCosts (l : Launch) {G : GT} {kd : Nat → Nat × Nat} {ad : Nat → Nat} {k0 : Nat} {k1 : Nat} (hk0 : kPlanner kd k0) (hk1 : kPart kd k1) {M : Mem} {MO : Mem} {vo : Unit} (hf : mX3_reckonCosts k0 k1 M = some (MO, vo)) (n : Nat) : Met l yX3_reckonCosts (Cond.code yX3_reckonCosts cX3_reckonCosts 3 none :: WA) (rmO 5 0 0) (Pg G kd ad n [.ref (ad k0), .ref (ad k1)] M) (Qg G kd ad n MO none) 0 0 (AS kd ad n) := by
  refine g_body (own := RX3) (by decide) rfl ?_ (Nat.le_of_ble_eq_true rfl)
  intro p e s m args below meth c C _ H locs ls hI hl
  obtain ⟨hx, hb, hml, hr, hown, hts, hlk, hK, hap, hsx⟩ := id C
  have hl : lv_has ls 3 [(0, .ref (ad k0)), (1, .ref (ad k1))] := hl
  unfold mX3_reckonCosts at hf
  refine lv_sipush (v := 255) hx hb (dc tbX3_reckonCosts_0_k 0 rfl) sp_255 ?_
  refine lv_istore_n (lv' := [(2, .int (255 : Int32)), (0, .ref (ad k0)), (1, .ref (ad k1))]) hx hb (dc tbX3_reckonCosts_0_k 1 rfl) rfl hl (by decide) rfl (fun ls hl => ?_)
  exact tX3_reckonCosts_l4 C hk0 hk1 5000 (255 : Int32) M hf _ _ _ hI (lv_sub hl [1, 2, 0] rfl)
theorem cv_X3_reckonCosts : cvF RX3 yX3_reckonCosts cX3_reckonCosts 3 none 1 := ⟨q_t3_111, q_s1_11, q_t1_6, q_t3_112, by decide +kernel⟩
def mX3_smallestStep_b3 (k0 : Nat) (k1 : Nat) (M : Mem) (ih3 : Int32 → Int32 → Int32 → Int32 → Int32 → Option Int32) (x2 : Int32) (x3 : Int32) (x4 : Int32) (x5 : Int32) (x6 : Int32) : Option Int32 := ite2 ((16 : Int32) ≤ x6) (some (-1 : Int32)) (cap (mX3_costThrough k0 k1 x2 x3 x4 x6 (1 : Int32) M) (fun r3 => ite2 (r3 = x5) (some x6) (bnd (x6 + (1 : Int32)) (fun x6_30 => ih3 x2 x3 x4 x5 x6_30))))
set_option maxHeartbeats 4000000 in
set_option maxRecDepth 100000 in
theorem tX3_smallestStep_b3 {p : Program} {l : Launch} {e : Env} {s : State} {m : MethodId} {args : Array Value} {below : List Frame} {meth : Method} {c : Code} {G : GT} {kd : Nat → Nat × Nat} {ad : Nat → Nat} (C : Cx p s m args meth c cX3_smallestStep 7 (some .int) RX3 G kd ad) {k0 : Nat} {k1 : Nat} (hk0 : kPlanner kd k0) (hk1 : kPart kd k1) {M : Mem} {vo : Int32} {ih3 : Int32 → Int32 → Int32 → Int32 → Int32 → Option Int32} (hih3 : ∀ (x2 : Int32) (x3 : Int32) (x4 : Int32) (x5 : Int32) (x6 : Int32), ih3 x2 x3 x4 x5 x6 = some vo → At p l e (rmO 3 0 0) s m args below meth c 0 0 (MQ below (Qg G kd ad s.heap.size M (some (.int vo))) args s 0 0 (AS kd ad s.heap.size)) G kd ad 7 3 [(0, .ref (ad k0)), (1, .ref (ad k1)), (2, .int x2), (3, .int x3), (4, .int x4), (5, .int x5), (6, .int x6)] [] M) : ∀ (x2 : Int32) (x3 : Int32) (x4 : Int32) (x5 : Int32) (x6 : Int32), mX3_smallestStep_b3 k0 k1 M ih3 x2 x3 x4 x5 x6 = some vo → At p l e (rmO 3 0 0) s m args below meth c 0 0 (MQ below (Qg G kd ad s.heap.size M (some (.int vo))) args s 0 0 (AS kd ad s.heap.size)) G kd ad 7 3 [(0, .ref (ad k0)), (1, .ref (ad k1)), (2, .int x2), (3, .int x3), (4, .int x4), (5, .int x5), (6, .int x6)] [] M := by
  intro x2 x3 x4 x5 x6 hf H locs ls hI hl
  obtain ⟨hx, hb, hml, hr, hown, hts, hlk, hK, hap, hsx⟩ := id C
  unfold mX3_smallestStep_b3 at hf
  refine lv_iload hx hb (dc tbX3_smallestStep_k 2 rfl) (lv_at hl 6 rfl) ?_
  refine lv_bipush (v := 16) hx hb (dc tbX3_smallestStep_k 3 rfl) bp_16 ?_
  refine lv_icmp_ge (tgt := 36) hx hb (dc tbX3_smallestStep_k 4 rfl) rfl (fun c1 => ?_) (fun c1 => ?_)
  · have hf := ite_t c1 hf
    refine lv_iconst (v := -1) hx hb (dc tbX3_smallestStep_k 19 rfl) ic_m1 ?_
    cases hf
    exact g_iret hx hb hr hlk hI (dc tbX3_smallestStep_k 20 rfl)
  · have hf := ite_f c1 hf
    refine lv_aload_n hx hb (dc tbX3_smallestStep_k 5 rfl) rfl (lv_at hl 0 rfl) ?_
    refine lv_aload_n hx hb (dc tbX3_smallestStep_k 6 rfl) rfl (lv_at hl 1 rfl) ?_
    refine lv_iload_n hx hb (dc tbX3_smallestStep_k 7 rfl) rfl (lv_at hl 2 rfl) ?_
    refine lv_iload_n hx hb (dc tbX3_smallestStep_k 8 rfl) rfl (lv_at hl 3 rfl) ?_
    refine lv_iload hx hb (dc tbX3_smallestStep_k 9 rfl) (lv_at hl 4 rfl) ?_
    refine lv_iload hx hb (dc tbX3_smallestStep_k 10 rfl) (lv_at hl 6 rfl) ?_
    refine lv_iconst (v := 1) hx hb (dc tbX3_smallestStep_k 11 rfl) ic_1 ?_
    obtain ⟨r3, q2, hf⟩ := cap_s hf
    refine g_callVi hx hb hml hown hts hK hap hsx hI (tX3_costThrough l hk0 hk1 q2 H.size) cv_X3_costThrough q_t3_121 rfl rfl ⟨Nat.le_of_ble_eq_true rfl, Nat.le_of_ble_eq_true rfl⟩ hk0.1 (by simp) rfl rfl rfl hl.1 rfl (Nat.le_of_ble_eq_true rfl) (dc tbX3_smallestStep_k 12 rfl) ⟨Nat.le_of_ble_eq_true rfl, Nat.le_of_ble_eq_true rfl⟩ (fun H locs hI => ?_)
    refine lv_iload hx hb (dc tbX3_smallestStep_k 13 rfl) (lv_at hl 5 rfl) ?_
    refine lv_icmp_ne (tgt := 30) hx hb (dc tbX3_smallestStep_k 14 rfl) rfl (fun c5 => ?_) (fun c5 => ?_)
    · have hf := ite_f c5 hf
      obtain ⟨x6_30, e6, hf⟩ := bnd_s hf
      refine lv_iinc (v := x6_30) (lv' := [(6, .int x6_30), (0, .ref (ad k0)), (1, .ref (ad k1)), (2, .int x2), (3, .int x3), (4, .int x4), (5, .int x5)]) hx hb (dc tbX3_smallestStep_k 17 rfl) hl (k := 6) rfl (ii_e e6 ic_1) (by decide) rfl (fun ls hl => ?_)
      refine lv_goto (tgt := 3) hx hb (dc tbX3_smallestStep_k 18 rfl) rfl ?_
      exact hih3 x2 x3 x4 x5 x6_30 hf _ _ _ hI (lv_sub hl [1, 2, 3, 4, 5, 6, 0] rfl)
    · have hf := ite_t c5 hf
      refine lv_iload hx hb (dc tbX3_smallestStep_k 15 rfl) (lv_at hl 6 rfl) ?_
      cases hf
      exact g_iret hx hb hr hlk hI (dc tbX3_smallestStep_k 16 rfl)
def mX3_smallestStep_l3 (k0 : Nat) (k1 : Nat) (M : Mem) : Nat → Int32 → Int32 → Int32 → Int32 → Int32 → Option Int32
  | 0 => fun _ _ _ _ _ => none
  | n + 1 => mX3_smallestStep_b3 k0 k1 M (mX3_smallestStep_l3 k0 k1 M n)
theorem tX3_smallestStep_l3 {p : Program} {l : Launch} {e : Env} {s : State} {m : MethodId} {args : Array Value} {below : List Frame} {meth : Method} {c : Code} {G : GT} {kd : Nat → Nat × Nat} {ad : Nat → Nat} (C : Cx p s m args meth c cX3_smallestStep 7 (some .int) RX3 G kd ad) {k0 : Nat} {k1 : Nat} (hk0 : kPlanner kd k0) (hk1 : kPart kd k1) {M : Mem} {vo : Int32}   : ∀ (fuel : Nat) (x2 : Int32) (x3 : Int32) (x4 : Int32) (x5 : Int32) (x6 : Int32), mX3_smallestStep_l3 k0 k1 M fuel x2 x3 x4 x5 x6 = some vo → At p l e (rmO 3 0 0) s m args below meth c 0 0 (MQ below (Qg G kd ad s.heap.size M (some (.int vo))) args s 0 0 (AS kd ad s.heap.size)) G kd ad 7 3 [(0, .ref (ad k0)), (1, .ref (ad k1)), (2, .int x2), (3, .int x3), (4, .int x4), (5, .int x5), (6, .int x6)] [] M := by
  intro fuel
  induction fuel with
  | zero => intro x2 x3 x4 x5 x6 hf; cases hf
  | succ n IH => exact tX3_smallestStep_b3 C hk0 hk1 IH
def mX3_smallestStep (k0 : Nat) (k1 : Nat) (x2 : Int32) (x3 : Int32) (x4 : Int32) (x5 : Int32) (M : Mem) : Option Int32 := mX3_smallestStep_l3 k0 k1 M 5000 x2 x3 x4 x5 (0 : Int32)
set_option maxHeartbeats 4000000 in
set_option maxRecDepth 100000 in
theorem tX3_smallestStep (l : Launch) {G : GT} {kd : Nat → Nat × Nat} {ad : Nat → Nat} {k0 : Nat} {k1 : Nat} (hk0 : kPlanner kd k0) (hk1 : kPart kd k1) {x2 : Int32} {x3 : Int32} {x4 : Int32} {x5 : Int32} {M : Mem} {vo : Int32} (hf : mX3_smallestStep k0 k1 x2 x3 x4 x5 M = some vo) (n : Nat) : Met l yX3_smallestStep (Cond.code yX3_smallestStep cX3_smallestStep 7 (some .int) :: WA) (rmO 3 0 0) (Pg G kd ad n [.ref (ad k0), .ref (ad k1), .int x2, .int x3, .int x4, .int x5] M) (Qg G kd ad n M (some (.int vo))) 0 0 (AS kd ad n) := by
  refine g_body (own := RX3) (by decide) rfl ?_ (Nat.le_of_ble_eq_true rfl)
  intro p e s m args below meth c C _ H locs ls hI hl
  obtain ⟨hx, hb, hml, hr, hown, hts, hlk, hK, hap, hsx⟩ := id C
  have hl : lv_has ls 7 [(0, .ref (ad k0)), (1, .ref (ad k1)), (2, .int x2), (3, .int x3), (4, .int x4), (5, .int x5)] := hl
  unfold mX3_smallestStep at hf
  refine lv_iconst (v := 0) hx hb (dc tbX3_smallestStep_k 0 rfl) ic_0 ?_
  refine lv_istore (lv' := [(6, .int (0 : Int32)), (0, .ref (ad k0)), (1, .ref (ad k1)), (2, .int x2), (3, .int x3), (4, .int x4), (5, .int x5)]) hx hb (dc tbX3_smallestStep_k 1 rfl) hl (by decide) rfl (fun ls hl => ?_)
  exact tX3_smallestStep_l3 C hk0 hk1 5000 x2 x3 x4 x5 (0 : Int32) hf _ _ _ hI (lv_sub hl [1, 2, 3, 4, 5, 6, 0] rfl)
theorem cv_X3_smallestStep : cvF RX3 yX3_smallestStep cX3_smallestStep 7 (some .int) 5 := ⟨q_t3_137, q_s2_0, q_t1_6, q_t3_138, by decide +kernel⟩
def mX3_choosePlan_b127 (k0 : Nat) (k1 : Nat) (ih40 : Int32 → Int32 → Int32 → Int32 → Int32 → Mem → Option (Mem × Unit)) (x2 : Int32) (x3 : Int32) (x4 : Int32) (x5 : Int32) (x6 : Int32) (M : Mem) : Option (Mem × Unit) := bnd (x6 + (1 : Int32)) (fun x6_127 => ih40 x2 x3 x4 x5 x6_127 M)
set_option maxHeartbeats 4000000 in
set_option maxRecDepth 100000 in
theorem tX3_choosePlan_b127 {p : Program} {l : Launch} {e : Env} {s : State} {m : MethodId} {args : Array Value} {below : List Frame} {meth : Method} {c : Code} {G : GT} {kd : Nat → Nat × Nat} {ad : Nat → Nat} (C : Cx p s m args meth c cX3_choosePlan 8 none RX3 G kd ad) {k0 : Nat} {k1 : Nat} (hk0 : kPlanner kd k0) (hk1 : kPart kd k1) {MO : Mem} {vo : Unit} {ih40 : Int32 → Int32 → Int32 → Int32 → Int32 → Mem → Option (Mem × Unit)} (hih40 : ∀ (x2 : Int32) (x3 : Int32) (x4 : Int32) (x5 : Int32) (x6 : Int32) (M : Mem), ih40 x2 x3 x4 x5 x6 M = some (MO, vo) → At p l e (rmO 4 0 0) s m args below meth c 0 0 (MQ below (Qg G kd ad s.heap.size MO none) args s 0 0 (AS kd ad s.heap.size)) G kd ad 8 40 [(0, .ref (ad k0)), (1, .ref (ad k1)), (2, .int x2), (3, .int x3), (4, .int x4), (5, .int x5), (6, .int x6)] [] M) : ∀ (x2 : Int32) (x3 : Int32) (x4 : Int32) (x5 : Int32) (x6 : Int32) (M : Mem), mX3_choosePlan_b127 k0 k1 ih40 x2 x3 x4 x5 x6 M = some (MO, vo) → At p l e (rmO 4 0 0) s m args below meth c 0 0 (MQ below (Qg G kd ad s.heap.size MO none) args s 0 0 (AS kd ad s.heap.size)) G kd ad 8 127 [(0, .ref (ad k0)), (1, .ref (ad k1)), (2, .int x2), (3, .int x3), (4, .int x4), (5, .int x5), (6, .int x6)] [] M := by
  intro x2 x3 x4 x5 x6 M hf H locs ls hI hl
  obtain ⟨hx, hb, hml, hr, hown, hts, hlk, hK, hap, hsx⟩ := id C
  unfold mX3_choosePlan_b127 at hf
  obtain ⟨x6_127, e18, hf⟩ := bnd_s hf
  refine lv_iinc (v := x6_127) (lv' := [(6, .int x6_127), (0, .ref (ad k0)), (1, .ref (ad k1)), (2, .int x2), (3, .int x3), (4, .int x4), (5, .int x5)]) hx hb (dc tbX3_choosePlan_1_k 33 rfl) hl (k := 6) rfl (ii_e e18 ic_1) (by decide) rfl (fun ls hl => ?_)
  refine lv_goto (tgt := 40) hx hb (dc tbX3_choosePlan_1_k 34 rfl) rfl ?_
  exact hih40 x2 x3 x4 x5 x6_127 M hf _ _ _ hI (lv_sub hl [1, 2, 3, 4, 5, 6, 0] rfl)
def mX3_choosePlan_b40 (k0 : Nat) (k1 : Nat) (ih40 : Int32 → Int32 → Int32 → Int32 → Int32 → Mem → Option (Mem × Unit)) (x2 : Int32) (x3 : Int32) (x4 : Int32) (x5 : Int32) (x6 : Int32) (M : Mem) : Option (Mem × Unit) := ite2 ((8 : Int32) ≤ x6) (some (M, ())) (ite2 (x5 = (-1 : Int32)) (some (M, ())) (cap (mX3_smallestStep k0 k1 x2 x3 x4 x5 M) (fun r15 => ite2 (r15 = (-1 : Int32)) (mX3_choosePlan_b127 k0 k1 ih40 x2 x3 x4 x5 x6 M) (chk (okb x6 8) (bnd (wr M (k0 + 1) (x6).toNatClampNeg r15) (fun M21 => bnd (wr M21 k0 3 (x6 + (1 : Int32))) (fun M22 => chk (okb ((x2 * (16 : Int32)) + r15) 4096) (bnd ((rd M22 (k0 + 20) (((x2 * (16 : Int32)) + r15)).toNatClampNeg)) (fun x4_104 => cap (mX3_setBehind x2 r15 M22) (fun r27 => chk (okb ((r27 * (16 : Int32)) + r15) 4096) (bnd ((rd M22 (k0 + 21) (((r27 * (16 : Int32)) + r15)).toNatClampNeg)) (fun x5_125 => mX3_choosePlan_b127 k0 k1 ih40 r27 r15 x4_104 x5_125 x6 M22))))))))))))
set_option maxHeartbeats 4000000 in
set_option maxRecDepth 100000 in
theorem tX3_choosePlan_b40 {p : Program} {l : Launch} {e : Env} {s : State} {m : MethodId} {args : Array Value} {below : List Frame} {meth : Method} {c : Code} {G : GT} {kd : Nat → Nat × Nat} {ad : Nat → Nat} (C : Cx p s m args meth c cX3_choosePlan 8 none RX3 G kd ad) {k0 : Nat} {k1 : Nat} (hk0 : kPlanner kd k0) (hk1 : kPart kd k1) {MO : Mem} {vo : Unit} {ih40 : Int32 → Int32 → Int32 → Int32 → Int32 → Mem → Option (Mem × Unit)} (hih40 : ∀ (x2 : Int32) (x3 : Int32) (x4 : Int32) (x5 : Int32) (x6 : Int32) (M : Mem), ih40 x2 x3 x4 x5 x6 M = some (MO, vo) → At p l e (rmO 4 0 0) s m args below meth c 0 0 (MQ below (Qg G kd ad s.heap.size MO none) args s 0 0 (AS kd ad s.heap.size)) G kd ad 8 40 [(0, .ref (ad k0)), (1, .ref (ad k1)), (2, .int x2), (3, .int x3), (4, .int x4), (5, .int x5), (6, .int x6)] [] M) : ∀ (x2 : Int32) (x3 : Int32) (x4 : Int32) (x5 : Int32) (x6 : Int32) (M : Mem), mX3_choosePlan_b40 k0 k1 ih40 x2 x3 x4 x5 x6 M = some (MO, vo) → At p l e (rmO 4 0 0) s m args below meth c 0 0 (MQ below (Qg G kd ad s.heap.size MO none) args s 0 0 (AS kd ad s.heap.size)) G kd ad 8 40 [(0, .ref (ad k0)), (1, .ref (ad k1)), (2, .int x2), (3, .int x3), (4, .int x4), (5, .int x5), (6, .int x6)] [] M := by
  intro x2 x3 x4 x5 x6 M hf H locs ls hI hl
  obtain ⟨hx, hb, hml, hr, hown, hts, hlk, hK, hap, hsx⟩ := id C
  unfold mX3_choosePlan_b40 at hf
  refine lv_iload hx hb (dc tbX3_choosePlan_0_k 22 rfl) (lv_at hl 6 rfl) ?_
  refine lv_bipush (v := 8) hx hb (dc tbX3_choosePlan_0_k 23 rfl) bp_8 ?_
  refine lv_icmp_ge (tgt := 133) hx hb (dc tbX3_choosePlan_0_k 24 rfl) rfl (fun c12 => ?_) (fun c12 => ?_)
  · have hf := ite_t c12 hf
    cases hf
    exact g_vret hx hb hr hlk hI (dc tbX3_choosePlan_1_k 35 rfl)
  · have hf := ite_f c12 hf
    refine lv_iload hx hb (dc tbX3_choosePlan_0_k 25 rfl) (lv_at hl 5 rfl) ?_
    refine lv_iconst (v := -1) hx hb (dc tbX3_choosePlan_0_k 26 rfl) ic_m1 ?_
    refine lv_icmp_eq (tgt := 133) hx hb (dc tbX3_choosePlan_0_k 27 rfl) rfl (fun c13 => ?_) (fun c13 => ?_)
    · have hf := ite_t c13 hf
      cases hf
      exact g_vret hx hb hr hlk hI (dc tbX3_choosePlan_1_k 35 rfl)
    · have hf := ite_f c13 hf
      refine lv_aload_n hx hb (dc tbX3_choosePlan_0_k 28 rfl) rfl (lv_at hl 0 rfl) ?_
      refine lv_aload_n hx hb (dc tbX3_choosePlan_0_k 29 rfl) rfl (lv_at hl 1 rfl) ?_
      refine lv_iload_n hx hb (dc tbX3_choosePlan_0_k 30 rfl) rfl (lv_at hl 2 rfl) ?_
      refine lv_iload_n hx hb (dc tbX3_choosePlan_0_k 31 rfl) rfl (lv_at hl 3 rfl) ?_
      refine lv_iload hx hb (dc tbX3_choosePlan_0_k 32 rfl) (lv_at hl 4 rfl) ?_
      refine lv_iload hx hb (dc tbX3_choosePlan_0_k 33 rfl) (lv_at hl 5 rfl) ?_
      obtain ⟨r15, q14, hf⟩ := cap_s hf
      refine g_callVi hx hb hml hown hts hK hap hsx hI (tX3_smallestStep l hk0 hk1 q14 H.size) cv_X3_smallestStep q_t3_135 rfl rfl ⟨Nat.le_of_ble_eq_true rfl, Nat.le_of_ble_eq_true rfl⟩ hk0.1 (by simp) rfl rfl rfl hl.1 rfl (Nat.le_of_ble_eq_true rfl) (dc tbX3_choosePlan_0_k 34 rfl) ⟨Nat.le_of_ble_eq_true rfl, Nat.le_of_ble_eq_true rfl⟩ (fun H locs hI => ?_)
      refine lv_istore (lv' := [(7, .int r15), (0, .ref (ad k0)), (1, .ref (ad k1)), (2, .int x2), (3, .int x3), (4, .int x4), (5, .int x5), (6, .int x6)]) hx hb (dc tbX3_choosePlan_0_k 35 rfl) hl (by decide) rfl (fun ls hl => ?_)
      refine lv_iload hx hb (dc tbX3_choosePlan_0_k 36 rfl) (lv_at hl 0 rfl) ?_
      refine lv_iconst (v := -1) hx hb (dc tbX3_choosePlan_0_k 37 rfl) ic_m1 ?_
      refine lv_icmp_eq (tgt := 127) hx hb (dc tbX3_choosePlan_0_k 38 rfl) rfl (fun c17 => ?_) (fun c17 => ?_)
      · have hf := ite_t c17 hf
        exact tX3_choosePlan_b127 C hk0 hk1 hih40 x2 x3 x4 x5 x6 M hf _ _ _ hI (lv_sub hl [1, 2, 3, 4, 5, 6, 7] rfl)
      · have hf := ite_f c17 hf
        refine lv_aload_n hx hb (dc tbX3_choosePlan_0_k 39 rfl) rfl (lv_at hl 1 rfl) ?_
        refine gg3_2 hx hb hts hown hK hI hk0.1 q_t2_8 (dc tbX3_choosePlan_1_k 0 rfl) ?_
        refine lv_iload hx hb (dc tbX3_choosePlan_1_k 1 rfl) (lv_at hl 7 rfl) ?_
        refine lv_iload hx hb (dc tbX3_choosePlan_1_k 2 rfl) (lv_at hl 0 rfl) ?_
        obtain ⟨h19, hf⟩ := chk_s hf
        obtain ⟨M21, e20, hf⟩ := bnd_s hf
        refine g_iast hx hb hK hap hI hk0.2.1 (okb_in h19) (dc tbX3_choosePlan_1_k 3 rfl) e20 (fun H locs hI => ?_)
        refine lv_aload_n hx hb (dc tbX3_choosePlan_1_k 4 rfl) rfl (lv_at hl 1 rfl) ?_
        refine lv_iload hx hb (dc tbX3_choosePlan_1_k 5 rfl) (lv_at hl 7 rfl) ?_
        refine lv_iconst (v := 1) hx hb (dc tbX3_choosePlan_1_k 6 rfl) ic_1 ?_
        refine lv_iadd hx hb (dc tbX3_choosePlan_1_k 7 rfl) ?_
        obtain ⟨M22, e23, hf⟩ := bnd_s hf
        refine gp3_3 hx hb hts hown hK hap hI hk0.1 q_t2_10 (dc tbX3_choosePlan_1_k 8 rfl) e23 (fun H locs hI => ?_)
        refine lv_iload hx hb (dc tbX3_choosePlan_1_k 9 rfl) (lv_at hl 0 rfl) ?_
        refine lv_istore_n (lv' := [(3, .int r15), (7, .int r15), (0, .ref (ad k0)), (1, .ref (ad k1)), (2, .int x2), (4, .int x4), (5, .int x5), (6, .int x6)]) hx hb (dc tbX3_choosePlan_1_k 10 rfl) rfl hl (by decide) rfl (fun ls hl => ?_)
        refine lv_aload_n hx hb (dc tbX3_choosePlan_1_k 11 rfl) rfl (lv_at hl 2 rfl) ?_
        refine gg3_10 hx hb hts hown hK hI hk0.1 q_t2_18 (dc tbX3_choosePlan_1_k 12 rfl) ?_
        refine lv_iload_n hx hb (dc tbX3_choosePlan_1_k 13 rfl) rfl (lv_at hl 4 rfl) ?_
        refine lv_bipush (v := 16) hx hb (dc tbX3_choosePlan_1_k 14 rfl) bp_16 ?_
        refine lv_imul hx hb (dc tbX3_choosePlan_1_k 15 rfl) ?_
        refine lv_iload hx hb (dc tbX3_choosePlan_1_k 16 rfl) (lv_at hl 1 rfl) ?_
        refine lv_iadd hx hb (dc tbX3_choosePlan_1_k 17 rfl) ?_
        obtain ⟨h24, hf⟩ := chk_s hf
        refine g_iald hx hb hK hI hk0.2.2.2.2.2.2.2.1 (okb_in h24) (dc tbX3_choosePlan_1_k 18 rfl) ?_
        obtain ⟨x4_104, e25, hf⟩ := bnd_s hf
        refine lv_ei e25 ?_
        refine lv_istore (lv' := [(4, .int x4_104), (3, .int r15), (7, .int r15), (0, .ref (ad k0)), (1, .ref (ad k1)), (2, .int x2), (5, .int x5), (6, .int x6)]) hx hb (dc tbX3_choosePlan_1_k 19 rfl) hl (by decide) rfl (fun ls hl => ?_)
        refine lv_iload_n hx hb (dc tbX3_choosePlan_1_k 20 rfl) rfl (lv_at hl 5 rfl) ?_
        refine lv_iload hx hb (dc tbX3_choosePlan_1_k 21 rfl) (lv_at hl 2 rfl) ?_
        obtain ⟨r27, q26, hf⟩ := cap_s hf
        refine g_callSi hx hb hml hown hts hK hap hsx hI (tX3_setBehind l  q26 H.size) cs_X3_setBehind q_t3_101 rfl rfl ⟨Nat.le_of_ble_eq_true rfl, Nat.le_of_ble_eq_true rfl⟩ rfl hl.1 rfl (Nat.le_of_ble_eq_true rfl) (dc tbX3_choosePlan_1_k 22 rfl) ⟨Nat.le_of_ble_eq_true rfl, Nat.le_of_ble_eq_true rfl⟩ (fun H locs hI => ?_)
        refine lv_istore_n (lv' := [(2, .int r27), (4, .int x4_104), (3, .int r15), (7, .int r15), (0, .ref (ad k0)), (1, .ref (ad k1)), (5, .int x5), (6, .int x6)]) hx hb (dc tbX3_choosePlan_1_k 23 rfl) rfl hl (by decide) rfl (fun ls hl => ?_)
        refine lv_aload_n hx hb (dc tbX3_choosePlan_1_k 24 rfl) rfl (lv_at hl 4 rfl) ?_
        refine gg3_11 hx hb hts hown hK hI hk0.1 q_t2_19 (dc tbX3_choosePlan_1_k 25 rfl) ?_
        refine lv_iload_n hx hb (dc tbX3_choosePlan_1_k 26 rfl) rfl (lv_at hl 0 rfl) ?_
        refine lv_bipush (v := 16) hx hb (dc tbX3_choosePlan_1_k 27 rfl) bp_16 ?_
        refine lv_imul hx hb (dc tbX3_choosePlan_1_k 28 rfl) ?_
        refine lv_iload hx hb (dc tbX3_choosePlan_1_k 29 rfl) (lv_at hl 3 rfl) ?_
        refine lv_iadd hx hb (dc tbX3_choosePlan_1_k 30 rfl) ?_
        obtain ⟨h29, hf⟩ := chk_s hf
        refine g_iald hx hb hK hI hk0.2.2.2.2.2.2.2.2.1 (okb_in h29) (dc tbX3_choosePlan_1_k 31 rfl) ?_
        obtain ⟨x5_125, e30, hf⟩ := bnd_s hf
        refine lv_ei e30 ?_
        refine lv_istore (lv' := [(5, .int x5_125), (2, .int r27), (4, .int x4_104), (3, .int r15), (7, .int r15), (0, .ref (ad k0)), (1, .ref (ad k1)), (6, .int x6)]) hx hb (dc tbX3_choosePlan_1_k 32 rfl) hl (by decide) rfl (fun ls hl => ?_)
        exact tX3_choosePlan_b127 C hk0 hk1 hih40 r27 r15 x4_104 x5_125 x6 M22 hf _ _ _ hI (lv_sub hl [5, 6, 1, 3, 2, 0, 7] rfl)
def mX3_choosePlan_l40 (k0 : Nat) (k1 : Nat) : Nat → Int32 → Int32 → Int32 → Int32 → Int32 → Mem → Option (Mem × Unit)
  | 0 => fun _ _ _ _ _ _ => none
  | n + 1 => mX3_choosePlan_b40 k0 k1 (mX3_choosePlan_l40 k0 k1 n)
theorem tX3_choosePlan_l40 {p : Program} {l : Launch} {e : Env} {s : State} {m : MethodId} {args : Array Value} {below : List Frame} {meth : Method} {c : Code} {G : GT} {kd : Nat → Nat × Nat} {ad : Nat → Nat} (C : Cx p s m args meth c cX3_choosePlan 8 none RX3 G kd ad) {k0 : Nat} {k1 : Nat} (hk0 : kPlanner kd k0) (hk1 : kPart kd k1) {MO : Mem} {vo : Unit}   : ∀ (fuel : Nat) (x2 : Int32) (x3 : Int32) (x4 : Int32) (x5 : Int32) (x6 : Int32) (M : Mem), mX3_choosePlan_l40 k0 k1 fuel x2 x3 x4 x5 x6 M = some (MO, vo) → At p l e (rmO 4 0 0) s m args below meth c 0 0 (MQ below (Qg G kd ad s.heap.size MO none) args s 0 0 (AS kd ad s.heap.size)) G kd ad 8 40 [(0, .ref (ad k0)), (1, .ref (ad k1)), (2, .int x2), (3, .int x3), (4, .int x4), (5, .int x5), (6, .int x6)] [] M := by
  intro fuel
  induction fuel with
  | zero => intro x2 x3 x4 x5 x6 M hf; cases hf
  | succ n IH => exact tX3_choosePlan_b40 C hk0 hk1 IH
def mX3_choosePlan_b34 (k0 : Nat) (k1 : Nat) (x2 : Int32) (x3 : Int32) (x4 : Int32) (x5 : Int32) (y1 : Int32) (M : Mem) : Option (Mem × Unit) := bnd (wr M k0 3 y1) (fun M10 => mX3_choosePlan_l40 k0 k1 5000 x2 x3 x4 x5 (0 : Int32) M10)
set_option maxHeartbeats 4000000 in
set_option maxRecDepth 100000 in
theorem tX3_choosePlan_b34 {p : Program} {l : Launch} {e : Env} {s : State} {m : MethodId} {args : Array Value} {below : List Frame} {meth : Method} {c : Code} {G : GT} {kd : Nat → Nat × Nat} {ad : Nat → Nat} (C : Cx p s m args meth c cX3_choosePlan 8 none RX3 G kd ad) {k0 : Nat} {k1 : Nat} (hk0 : kPlanner kd k0) (hk1 : kPart kd k1) {MO : Mem} {vo : Unit}   : ∀ (x2 : Int32) (x3 : Int32) (x4 : Int32) (x5 : Int32) (y1 : Int32) (M : Mem), mX3_choosePlan_b34 k0 k1 x2 x3 x4 x5 y1 M = some (MO, vo) → At p l e (rmO 4 0 0) s m args below meth c 0 0 (MQ below (Qg G kd ad s.heap.size MO none) args s 0 0 (AS kd ad s.heap.size)) G kd ad 8 34 [(0, .ref (ad k0)), (1, .ref (ad k1)), (2, .int x2), (3, .int x3), (4, .int x4), (5, .int x5)] [.int y1, .ref (ad k0)] M := by
  intro x2 x3 x4 x5 y1 M hf H locs ls hI hl
  obtain ⟨hx, hb, hml, hr, hown, hts, hlk, hK, hap, hsx⟩ := id C
  unfold mX3_choosePlan_b34 at hf
  obtain ⟨M10, e11, hf⟩ := bnd_s hf
  refine gp3_3 hx hb hts hown hK hap hI hk0.1 q_t2_10 (dc tbX3_choosePlan_0_k 19 rfl) e11 (fun H locs hI => ?_)
  refine lv_iconst (v := 0) hx hb (dc tbX3_choosePlan_0_k 20 rfl) ic_0 ?_
  refine lv_istore (lv' := [(6, .int (0 : Int32)), (0, .ref (ad k0)), (1, .ref (ad k1)), (2, .int x2), (3, .int x3), (4, .int x4), (5, .int x5)]) hx hb (dc tbX3_choosePlan_0_k 21 rfl) hl (by decide) rfl (fun ls hl => ?_)
  exact tX3_choosePlan_l40 C hk0 hk1 5000 x2 x3 x4 x5 (0 : Int32) M10 hf _ _ _ hI (lv_sub hl [1, 2, 3, 4, 5, 6, 0] rfl)
def mX3_choosePlan (k0 : Nat) (k1 : Nat) (M : Mem) : Option (Mem × Unit) := bnd ((rd M k1 13)) (fun x2_4 => cap (mX1_lastCode k1 M) (fun r3 => cap (mX1_lastGauge k1 M) (fun r6 => bnd ((rd M k0 0)) (fun x5_20 => ite2 (x5_20 = (-1 : Int32)) (mX3_choosePlan_b34 k0 k1 x2_4 r3 r6 x5_20 (-1 : Int32) M) (mX3_choosePlan_b34 k0 k1 x2_4 r3 r6 x5_20 (0 : Int32) M)))))
set_option maxHeartbeats 4000000 in
set_option maxRecDepth 100000 in
theorem tX3_choosePlan (l : Launch) {G : GT} {kd : Nat → Nat × Nat} {ad : Nat → Nat} {k0 : Nat} {k1 : Nat} (hk0 : kPlanner kd k0) (hk1 : kPart kd k1) {M : Mem} {MO : Mem} {vo : Unit} (hf : mX3_choosePlan k0 k1 M = some (MO, vo)) (n : Nat) : Met l yX3_choosePlan (Cond.code yX3_choosePlan cX3_choosePlan 8 none :: WA) (rmO 4 0 0) (Pg G kd ad n [.ref (ad k0), .ref (ad k1)] M) (Qg G kd ad n MO none) 0 0 (AS kd ad n) := by
  refine g_body (own := RX3) (by decide) rfl ?_ (Nat.le_of_ble_eq_true rfl)
  intro p e s m args below meth c C _ H locs ls hI hl
  obtain ⟨hx, hb, hml, hr, hown, hts, hlk, hK, hap, hsx⟩ := id C
  have hl : lv_has ls 8 [(0, .ref (ad k0)), (1, .ref (ad k1))] := hl
  unfold mX3_choosePlan at hf
  refine lv_aload_n hx hb (dc tbX3_choosePlan_0_k 0 rfl) rfl (lv_at hl 1 rfl) ?_
  refine gg1_13 hx hb hts hown hK hI hk1.1 q_t1_127 (dc tbX3_choosePlan_0_k 1 rfl) ?_
  obtain ⟨x2_4, e1, hf⟩ := bnd_s hf
  refine lv_ei e1 ?_
  refine lv_istore_n (lv' := [(2, .int x2_4), (0, .ref (ad k0)), (1, .ref (ad k1))]) hx hb (dc tbX3_choosePlan_0_k 2 rfl) rfl hl (by decide) rfl (fun ls hl => ?_)
  refine lv_aload_n hx hb (dc tbX3_choosePlan_0_k 3 rfl) rfl (lv_at hl 2 rfl) ?_
  obtain ⟨r3, q2, hf⟩ := cap_s hf
  refine g_callVi hx hb hml hown hts hK hap hsx hI (tX1_lastCode l hk1 q2 H.size) cv_X1_lastCode q_t3_129 rfl rfl ⟨Nat.le_of_ble_eq_true rfl, Nat.le_of_ble_eq_true rfl⟩ hk1.1 (by simp) rfl rfl rfl hl.1 rfl (Nat.le_of_ble_eq_true rfl) (dc tbX3_choosePlan_0_k 4 rfl) ⟨Nat.le_of_ble_eq_true rfl, Nat.le_of_ble_eq_true rfl⟩ (fun H locs hI => ?_)
  refine lv_istore_n (lv' := [(3, .int r3), (2, .int x2_4), (0, .ref (ad k0)), (1, .ref (ad k1))]) hx hb (dc tbX3_choosePlan_0_k 5 rfl) rfl hl (by decide) rfl (fun ls hl => ?_)
  refine lv_aload_n hx hb (dc tbX3_choosePlan_0_k 6 rfl) rfl (lv_at hl 3 rfl) ?_
  obtain ⟨r6, q5, hf⟩ := cap_s hf
  refine g_callVi hx hb hml hown hts hK hap hsx hI (tX1_lastGauge l hk1 q5 H.size) cv_X1_lastGauge q_t3_130 rfl rfl ⟨Nat.le_of_ble_eq_true rfl, Nat.le_of_ble_eq_true rfl⟩ hk1.1 (by simp) rfl rfl rfl hl.1 rfl (Nat.le_of_ble_eq_true rfl) (dc tbX3_choosePlan_0_k 7 rfl) ⟨Nat.le_of_ble_eq_true rfl, Nat.le_of_ble_eq_true rfl⟩ (fun H locs hI => ?_)
  refine lv_istore (lv' := [(4, .int r6), (3, .int r3), (2, .int x2_4), (0, .ref (ad k0)), (1, .ref (ad k1))]) hx hb (dc tbX3_choosePlan_0_k 8 rfl) hl (by decide) rfl (fun ls hl => ?_)
  refine lv_aload_n hx hb (dc tbX3_choosePlan_0_k 9 rfl) rfl (lv_at hl 3 rfl) ?_
  refine gg3_0 hx hb hts hown hK hI hk0.1 q_t2_4 (dc tbX3_choosePlan_0_k 10 rfl) ?_
  obtain ⟨x5_20, e8, hf⟩ := bnd_s hf
  refine lv_ei e8 ?_
  refine lv_istore (lv' := [(5, .int x5_20), (4, .int r6), (3, .int r3), (2, .int x2_4), (0, .ref (ad k0)), (1, .ref (ad k1))]) hx hb (dc tbX3_choosePlan_0_k 11 rfl) hl (by decide) rfl (fun ls hl => ?_)
  refine lv_aload_n hx hb (dc tbX3_choosePlan_0_k 12 rfl) rfl (lv_at hl 4 rfl) ?_
  refine lv_iload hx hb (dc tbX3_choosePlan_0_k 13 rfl) (lv_at hl 0 rfl) ?_
  refine lv_iconst (v := -1) hx hb (dc tbX3_choosePlan_0_k 14 rfl) ic_m1 ?_
  refine lv_icmp_ne (tgt := 33) hx hb (dc tbX3_choosePlan_0_k 15 rfl) rfl (fun c9 => ?_) (fun c9 => ?_)
  · have hf := ite_f c9 hf
    refine lv_iconst (v := 0) hx hb (dc tbX3_choosePlan_0_k 18 rfl) ic_0 ?_
    exact tX3_choosePlan_b34 C hk0 hk1 x2_4 r3 r6 x5_20 (0 : Int32) M hf _ _ _ hI (lv_sub hl [4, 5, 3, 2, 1, 0] rfl)
  · have hf := ite_t c9 hf
    refine lv_iconst (v := -1) hx hb (dc tbX3_choosePlan_0_k 16 rfl) ic_m1 ?_
    refine lv_goto (tgt := 34) hx hb (dc tbX3_choosePlan_0_k 17 rfl) rfl ?_
    exact tX3_choosePlan_b34 C hk0 hk1 x2_4 r3 r6 x5_20 (-1 : Int32) M hf _ _ _ hI (lv_sub hl [4, 5, 3, 2, 1, 0] rfl)
theorem cv_X3_choosePlan : cvF RX3 yX3_choosePlan cX3_choosePlan 8 none 1 := ⟨q_t3_133, q_s1_15, q_t1_6, q_t3_134, by decide +kernel⟩
def mX3_prepare_b30 (k0 : Nat) (k1 : Nat) (M : Mem) : Option (Mem × Unit) := cal (mX3_reachSets k0 k1 M) (fun M4 _ => cal (mX3_countOrders k0 k1 M4) (fun M7 _ => cal (mX3_reckonCosts k0 k1 M7) (fun M10 _ => cal (mX3_choosePlan k0 k1 M10) (fun M13 _ => bnd (wr M13 k0 6 (1 : Int32)) (fun M14 => some (M14, ()))))))
set_option maxHeartbeats 4000000 in
set_option maxRecDepth 100000 in
theorem tX3_prepare_b30 {p : Program} {l : Launch} {e : Env} {s : State} {m : MethodId} {args : Array Value} {below : List Frame} {meth : Method} {c : Code} {G : GT} {kd : Nat → Nat × Nat} {ad : Nat → Nat} (C : Cx p s m args meth c cX3_prepare 2 none RX3 G kd ad) {k0 : Nat} {k1 : Nat} (hk0 : kPlanner kd k0) (hk1 : kPart kd k1) {MO : Mem} {vo : Unit}   : ∀  (M : Mem), mX3_prepare_b30 k0 k1 M = some (MO, vo) → At p l e (rmO 6 0 0) s m args below meth c 0 0 (MQ below (Qg G kd ad s.heap.size MO none) args s 0 0 (AS kd ad s.heap.size)) G kd ad 2 30 [(0, .ref (ad k0)), (1, .ref (ad k1))] [] M := by
  intro M hf H locs ls hI hl
  obtain ⟨hx, hb, hml, hr, hown, hts, hlk, hK, hap, hsx⟩ := id C
  unfold mX3_prepare_b30 at hf
  refine lv_aload_n hx hb (dc tbX3_prepare_k 14 rfl) rfl (lv_at hl 0 rfl) ?_
  refine lv_aload_n hx hb (dc tbX3_prepare_k 15 rfl) rfl (lv_at hl 1 rfl) ?_
  obtain ⟨M4, r3, q2, hf⟩ := cal_s hf
  refine g_callVv hx hb hml hown hts hK hap hsx hI (tX3_reachSets l hk0 hk1 q2 H.size) cv_X3_reachSets q_t3_79 rfl rfl ⟨Nat.le_of_ble_eq_true rfl, Nat.le_of_ble_eq_true rfl⟩ hk0.1 (by simp) rfl rfl rfl hl.1 rfl (Nat.le_of_ble_eq_true rfl) (dc tbX3_prepare_k 16 rfl) ⟨Nat.le_of_ble_eq_true rfl, Nat.le_of_ble_eq_true rfl⟩ (fun H locs hI => ?_)
  refine lv_aload_n hx hb (dc tbX3_prepare_k 17 rfl) rfl (lv_at hl 0 rfl) ?_
  refine lv_aload_n hx hb (dc tbX3_prepare_k 18 rfl) rfl (lv_at hl 1 rfl) ?_
  obtain ⟨M7, r6, q5, hf⟩ := cal_s hf
  refine g_callVv hx hb hml hown hts hK hap hsx hI (tX3_countOrders l hk0 hk1 q5 H.size) cv_X3_countOrders q_t3_104 rfl rfl ⟨Nat.le_of_ble_eq_true rfl, Nat.le_of_ble_eq_true rfl⟩ hk0.1 (by simp) rfl rfl rfl hl.1 rfl (Nat.le_of_ble_eq_true rfl) (dc tbX3_prepare_k 19 rfl) ⟨Nat.le_of_ble_eq_true rfl, Nat.le_of_ble_eq_true rfl⟩ (fun H locs hI => ?_)
  refine lv_aload_n hx hb (dc tbX3_prepare_k 20 rfl) rfl (lv_at hl 0 rfl) ?_
  refine lv_aload_n hx hb (dc tbX3_prepare_k 21 rfl) rfl (lv_at hl 1 rfl) ?_
  obtain ⟨M10, r9, q8, hf⟩ := cal_s hf
  refine g_callVv hx hb hml hown hts hK hap hsx hI (tX3_reckonCosts l hk0 hk1 q8 H.size) cv_X3_reckonCosts q_t3_109 rfl rfl ⟨Nat.le_of_ble_eq_true rfl, Nat.le_of_ble_eq_true rfl⟩ hk0.1 (by simp) rfl rfl rfl hl.1 rfl (Nat.le_of_ble_eq_true rfl) (dc tbX3_prepare_k 22 rfl) ⟨Nat.le_of_ble_eq_true rfl, Nat.le_of_ble_eq_true rfl⟩ (fun H locs hI => ?_)
  refine lv_aload_n hx hb (dc tbX3_prepare_k 23 rfl) rfl (lv_at hl 0 rfl) ?_
  refine lv_aload_n hx hb (dc tbX3_prepare_k 24 rfl) rfl (lv_at hl 1 rfl) ?_
  obtain ⟨M13, r12, q11, hf⟩ := cal_s hf
  refine g_callVv hx hb hml hown hts hK hap hsx hI (tX3_choosePlan l hk0 hk1 q11 H.size) cv_X3_choosePlan q_t3_131 rfl rfl ⟨Nat.le_of_ble_eq_true rfl, Nat.le_of_ble_eq_true rfl⟩ hk0.1 (by simp) rfl rfl rfl hl.1 rfl (Nat.le_of_ble_eq_true rfl) (dc tbX3_prepare_k 25 rfl) ⟨Nat.le_of_ble_eq_true rfl, Nat.le_of_ble_eq_true rfl⟩ (fun H locs hI => ?_)
  refine lv_aload_n hx hb (dc tbX3_prepare_k 26 rfl) rfl (lv_at hl 0 rfl) ?_
  refine lv_iconst (v := 1) hx hb (dc tbX3_prepare_k 27 rfl) ic_1 ?_
  obtain ⟨M14, e15, hf⟩ := bnd_s hf
  refine gp3_6 hx hb hts hown hK hap hI hk0.1 q_t2_14 (dc tbX3_prepare_k 28 rfl) rfl rfl e15 (fun H locs hI => ?_)
  cases hf
  exact g_vret hx hb hr hlk hI (dc tbX3_prepare_k 29 rfl)
def mX3_prepare (k0 : Nat) (k1 : Nat) (M : Mem) : Option (Mem × Unit) := ite2 ((rd M k0 6) = 0) (mX3_prepare_b30 k0 k1 M) (cap (mX1_bendsLike k1 (k0 + 9) M) (fun r17 => ite2 (r17 = 0) (mX3_prepare_b30 k0 k1 M) (cap (mX1_goesOnLike k1 (k0 + 9) M) (fun r21 => ite2 (r21 = 0) (mX3_prepare_b30 k0 k1 M) (some (M, ()))))))
set_option maxHeartbeats 4000000 in
set_option maxRecDepth 100000 in
theorem tX3_prepare (l : Launch) {G : GT} {kd : Nat → Nat × Nat} {ad : Nat → Nat} {k0 : Nat} {k1 : Nat} (hk0 : kPlanner kd k0) (hk1 : kPart kd k1) {M : Mem} {MO : Mem} {vo : Unit} (hf : mX3_prepare k0 k1 M = some (MO, vo)) (n : Nat) : Met l yX3_prepare (Cond.code yX3_prepare cX3_prepare 2 none :: WA) (rmO 6 0 0) (Pg G kd ad n [.ref (ad k0), .ref (ad k1)] M) (Qg G kd ad n MO none) 0 0 (AS kd ad n) := by
  refine g_body (own := RX3) (by decide) rfl ?_ (Nat.le_of_ble_eq_true rfl)
  intro p e s m args below meth c C _ H locs ls hI hl
  obtain ⟨hx, hb, hml, hr, hown, hts, hlk, hK, hap, hsx⟩ := id C
  have hl : lv_has ls 2 [(0, .ref (ad k0)), (1, .ref (ad k1))] := hl
  unfold mX3_prepare at hf
  refine lv_aload_n hx hb (dc tbX3_prepare_k 0 rfl) rfl (lv_at hl 0 rfl) ?_
  refine gg3_6 hx hb hts hown hK hI hk0.1 q_t2_14 (dc tbX3_prepare_k 1 rfl) ?_
  refine lv_if_eq (tgt := 30) hx hb (dc tbX3_prepare_k 2 rfl) rfl (fun c1 => ?_) (fun c1 => ?_)
  · have hf := ite_t c1 hf
    exact tX3_prepare_b30 C hk0 hk1 M hf _ _ _ hI (lv_sub hl [0, 1] rfl)
  · have hf := ite_f c1 hf
    refine lv_aload_n hx hb (dc tbX3_prepare_k 3 rfl) rfl (lv_at hl 1 rfl) ?_
    refine lv_aload_n hx hb (dc tbX3_prepare_k 4 rfl) rfl (lv_at hl 0 rfl) ?_
    refine gg3_5 hx hb hts hown hK hI hk0.1 q_t2_13 (dc tbX3_prepare_k 5 rfl) ?_
    obtain ⟨r17, q16, hf⟩ := cap_s hf
    refine g_callVi hx hb hml hown hts hK hap hsx hI (tX1_bendsLike l hk1 hk0.2.2.2.1 q16 H.size) cv_X1_bendsLike q_t3_63 rfl rfl ⟨Nat.le_of_ble_eq_true rfl, Nat.le_of_ble_eq_true rfl⟩ hk1.1 (by simp) rfl rfl rfl hl.1 rfl (Nat.le_of_ble_eq_true rfl) (dc tbX3_prepare_k 6 rfl) ⟨Nat.le_of_ble_eq_true rfl, Nat.le_of_ble_eq_true rfl⟩ (fun H locs hI => ?_)
    refine lv_if_eq (tgt := 30) hx hb (dc tbX3_prepare_k 7 rfl) rfl (fun c19 => ?_) (fun c19 => ?_)
    · have hf := ite_t c19 hf
      exact tX3_prepare_b30 C hk0 hk1 M hf _ _ _ hI (lv_sub hl [0, 1] rfl)
    · have hf := ite_f c19 hf
      refine lv_aload_n hx hb (dc tbX3_prepare_k 8 rfl) rfl (lv_at hl 1 rfl) ?_
      refine lv_aload_n hx hb (dc tbX3_prepare_k 9 rfl) rfl (lv_at hl 0 rfl) ?_
      refine gg3_5 hx hb hts hown hK hI hk0.1 q_t2_13 (dc tbX3_prepare_k 10 rfl) ?_
      obtain ⟨r21, q20, hf⟩ := cap_s hf
      refine g_callVi hx hb hml hown hts hK hap hsx hI (tX1_goesOnLike l hk1 hk0.2.2.2.1 q20 H.size) cv_X1_goesOnLike q_t3_67 rfl rfl ⟨Nat.le_of_ble_eq_true rfl, Nat.le_of_ble_eq_true rfl⟩ hk1.1 (by simp) rfl rfl rfl hl.1 rfl (Nat.le_of_ble_eq_true rfl) (dc tbX3_prepare_k 11 rfl) ⟨Nat.le_of_ble_eq_true rfl, Nat.le_of_ble_eq_true rfl⟩ (fun H locs hI => ?_)
      refine lv_if_eq (tgt := 30) hx hb (dc tbX3_prepare_k 12 rfl) rfl (fun c23 => ?_) (fun c23 => ?_)
      · have hf := ite_t c23 hf
        exact tX3_prepare_b30 C hk0 hk1 M hf _ _ _ hI (lv_sub hl [0, 1] rfl)
      · have hf := ite_f c23 hf
        cases hf
        exact g_vret hx hb hr hlk hI (dc tbX3_prepare_k 13 rfl)
theorem cv_X3_prepare : cvF RX3 yX3_prepare cX3_prepare 2 none 1 := ⟨q_t3_60, q_t3_61, q_t1_6, q_t3_62, by decide +kernel⟩
def mX3_reachesAll (k0 : Nat) (k1 : Nat) (M : Mem) : Option (Mem × Int32) := cal (mX3_reachSets k0 k1 M) (fun M3 _ => cap (mX1_allBends k1 M3) (fun r5 => chk (okb r5 256) (chk (isB (rd M3 (k0 + 18) (r5).toNatClampNeg)) (some (M3, (rd M3 (k0 + 18) (r5).toNatClampNeg))))))
set_option maxHeartbeats 4000000 in
set_option maxRecDepth 100000 in
theorem tX3_reachesAll (l : Launch) {G : GT} {kd : Nat → Nat × Nat} {ad : Nat → Nat} {k0 : Nat} {k1 : Nat} (hk0 : kPlanner kd k0) (hk1 : kPart kd k1) {M : Mem} {MO : Mem} {vo : Int32} (hf : mX3_reachesAll k0 k1 M = some (MO, vo)) (n : Nat) : Met l yX3_reachesAll (Cond.code yX3_reachesAll cX3_reachesAll 2 (some .boolean) :: WA) (rmO 5 0 0) (Pg G kd ad n [.ref (ad k0), .ref (ad k1)] M) (Qg G kd ad n MO (some (.int vo))) 0 0 (AS kd ad n) := by
  refine g_body (own := RX3) (by decide) rfl ?_ (Nat.le_of_ble_eq_true rfl)
  intro p e s m args below meth c C _ H locs ls hI hl
  obtain ⟨hx, hb, hml, hr, hown, hts, hlk, hK, hap, hsx⟩ := id C
  have hl : lv_has ls 2 [(0, .ref (ad k0)), (1, .ref (ad k1))] := hl
  unfold mX3_reachesAll at hf
  refine lv_aload_n hx hb (dc tbX3_reachesAll_k 0 rfl) rfl (lv_at hl 0 rfl) ?_
  refine lv_aload_n hx hb (dc tbX3_reachesAll_k 1 rfl) rfl (lv_at hl 1 rfl) ?_
  obtain ⟨M3, r2, q1, hf⟩ := cal_s hf
  refine g_callVv hx hb hml hown hts hK hap hsx hI (tX3_reachSets l hk0 hk1 q1 H.size) cv_X3_reachSets q_t3_79 rfl rfl ⟨Nat.le_of_ble_eq_true rfl, Nat.le_of_ble_eq_true rfl⟩ hk0.1 (by simp) rfl rfl rfl hl.1 rfl (Nat.le_of_ble_eq_true rfl) (dc tbX3_reachesAll_k 2 rfl) ⟨Nat.le_of_ble_eq_true rfl, Nat.le_of_ble_eq_true rfl⟩ (fun H locs hI => ?_)
  refine lv_aload_n hx hb (dc tbX3_reachesAll_k 3 rfl) rfl (lv_at hl 0 rfl) ?_
  refine gg3_8 hx hb hts hown hK hI hk0.1 q_t2_16 (dc tbX3_reachesAll_k 4 rfl) ?_
  refine lv_aload_n hx hb (dc tbX3_reachesAll_k 5 rfl) rfl (lv_at hl 1 rfl) ?_
  obtain ⟨r5, q4, hf⟩ := cap_s hf
  refine g_callVi hx hb hml hown hts hK hap hsx hI (tX1_allBends l hk1 q4 H.size) cv_X1_allBends q_t3_108 rfl rfl ⟨Nat.le_of_ble_eq_true rfl, Nat.le_of_ble_eq_true rfl⟩ hk1.1 (by simp) rfl rfl rfl hl.1 rfl (Nat.le_of_ble_eq_true rfl) (dc tbX3_reachesAll_k 6 rfl) ⟨Nat.le_of_ble_eq_true rfl, Nat.le_of_ble_eq_true rfl⟩ (fun H locs hI => ?_)
  obtain ⟨h7, hf⟩ := chk_s hf
  refine g_zald hx hb hK hI hk0.2.2.2.2.2.1 (okb_in h7) (dc tbX3_reachesAll_k 7 rfl) ?_
  obtain ⟨h8, hf⟩ := chk_s hf
  cases hf
  exact g_zret hx hb hr hlk hI (isB_n h8) (dc tbX3_reachesAll_k 8 rfl)
theorem cv_X3_reachesAll : cvF RX3 yX3_reachesAll cX3_reachesAll 2 (some .boolean) 1 := ⟨q_t3_184, q_t3_185, q_t1_6, q_t3_186, by decide +kernel⟩
def mX3_ordersFrom_b25 (k0 : Nat) (M : Mem) (x1 : Int32) (y0 : Int32) : Option Int64 := ite2 (y0 = 0) (some (0 : Int64)) (chk (okb x1 256) (some (rl M (k0 + 19) (x1).toNatClampNeg)))
set_option maxHeartbeats 4000000 in
set_option maxRecDepth 100000 in
theorem tX3_ordersFrom_b25 {p : Program} {l : Launch} {e : Env} {s : State} {m : MethodId} {args : Array Value} {below : List Frame} {meth : Method} {c : Code} {G : GT} {kd : Nat → Nat × Nat} {ad : Nat → Nat} (C : Cx p s m args meth c cX3_ordersFrom 3 (some .long) RX3 G kd ad) {k0 : Nat} (hk0 : kPlanner kd k0) {M : Mem} {vo : Int64}   : ∀ (x1 : Int32) (y0 : Int32), mX3_ordersFrom_b25 k0 M x1 y0 = some vo → At p l e (rmO 0 0 0) s m args below meth c 0 0 (MQ below (Qg G kd ad s.heap.size M (some (.long vo))) args s 0 0 (AS kd ad s.heap.size)) G kd ad 3 25 [(0, .ref (ad k0)), (1, .int x1)] [.int y0] M := by
  intro x1 y0 hf H locs ls hI hl
  obtain ⟨hx, hb, hml, hr, hown, hts, hlk, hK, hap, hsx⟩ := id C
  unfold mX3_ordersFrom_b25 at hf
  refine lv_istore_n (lv' := [(2, .int y0), (0, .ref (ad k0)), (1, .int x1)]) hx hb (dc tbX3_ordersFrom_k 13 rfl) rfl hl (by decide) rfl (fun ls hl => ?_)
  refine lv_iload_n hx hb (dc tbX3_ordersFrom_k 14 rfl) rfl (lv_at hl 0 rfl) ?_
  refine lv_if_eq (tgt := 39) hx hb (dc tbX3_ordersFrom_k 15 rfl) rfl (fun c2 => ?_) (fun c2 => ?_)
  · have hf := ite_t c2 hf
    refine lv_lconst (v := 0) hx hb (dc tbX3_ordersFrom_k 21 rfl) (by decide) ?_
    cases hf
    exact g_lret hx hb hr hlk hI (dc tbX3_ordersFrom_k 22 rfl)
  · have hf := ite_f c2 hf
    refine lv_aload_n hx hb (dc tbX3_ordersFrom_k 16 rfl) rfl (lv_at hl 1 rfl) ?_
    refine gg3_9 hx hb hts hown hK hI hk0.1 q_t2_17 (dc tbX3_ordersFrom_k 17 rfl) ?_
    refine lv_iload_n hx hb (dc tbX3_ordersFrom_k 18 rfl) rfl (lv_at hl 2 rfl) ?_
    obtain ⟨h3, hf⟩ := chk_s hf
    refine g_lald hx hb hK hI hk0.2.2.2.2.2.2.1 (okb_in h3) (dc tbX3_ordersFrom_k 19 rfl) ?_
    refine lv_goto (tgt := 40) hx hb (dc tbX3_ordersFrom_k 20 rfl) rfl ?_
    cases hf
    exact g_lret hx hb hr hlk hI (dc tbX3_ordersFrom_k 22 rfl)
def mX3_ordersFrom_b24 (k0 : Nat) (M : Mem) (x1 : Int32) : Option Int64 := mX3_ordersFrom_b25 k0 M x1 (0 : Int32)
set_option maxHeartbeats 4000000 in
set_option maxRecDepth 100000 in
theorem tX3_ordersFrom_b24 {p : Program} {l : Launch} {e : Env} {s : State} {m : MethodId} {args : Array Value} {below : List Frame} {meth : Method} {c : Code} {G : GT} {kd : Nat → Nat × Nat} {ad : Nat → Nat} (C : Cx p s m args meth c cX3_ordersFrom 3 (some .long) RX3 G kd ad) {k0 : Nat} (hk0 : kPlanner kd k0) {M : Mem} {vo : Int64}   : ∀ (x1 : Int32), mX3_ordersFrom_b24 k0 M x1 = some vo → At p l e (rmO 0 0 0) s m args below meth c 0 0 (MQ below (Qg G kd ad s.heap.size M (some (.long vo))) args s 0 0 (AS kd ad s.heap.size)) G kd ad 3 24 [(0, .ref (ad k0)), (1, .int x1)] [] M := by
  intro x1 hf H locs ls hI hl
  obtain ⟨hx, hb, hml, hr, hown, hts, hlk, hK, hap, hsx⟩ := id C
  unfold mX3_ordersFrom_b24 at hf
  refine lv_iconst (v := 0) hx hb (dc tbX3_ordersFrom_k 12 rfl) ic_0 ?_
  exact tX3_ordersFrom_b25 C hk0 x1 (0 : Int32) hf _ _ _ hI (lv_sub hl [0, 1] rfl)
def mX3_ordersFrom (k0 : Nat) (x1 : Int32) (M : Mem) : Option Int64 := ite2 (x1 < 0) (mX3_ordersFrom_b24 k0 M x1) (ite2 ((256 : Int32) ≤ x1) (mX3_ordersFrom_b24 k0 M x1) (chk (okb x1 256) (ite2 ((rd M (k0 + 18) (x1).toNatClampNeg) = 0) (mX3_ordersFrom_b24 k0 M x1) (mX3_ordersFrom_b25 k0 M x1 (1 : Int32)))))
set_option maxHeartbeats 4000000 in
set_option maxRecDepth 100000 in
theorem tX3_ordersFrom (l : Launch) {G : GT} {kd : Nat → Nat × Nat} {ad : Nat → Nat} {k0 : Nat} (hk0 : kPlanner kd k0) {x1 : Int32} {M : Mem} {vo : Int64} (hf : mX3_ordersFrom k0 x1 M = some vo) (n : Nat) : Met l yX3_ordersFrom (Cond.code yX3_ordersFrom cX3_ordersFrom 3 (some .long) :: WA) (rmO 0 0 0) (Pg G kd ad n [.ref (ad k0), .int x1] M) (Qg G kd ad n M (some (.long vo))) 0 0 (AS kd ad n) := by
  refine g_body (own := RX3) (by decide) rfl ?_ (Nat.le_of_ble_eq_true rfl)
  intro p e s m args below meth c C _ H locs ls hI hl
  obtain ⟨hx, hb, hml, hr, hown, hts, hlk, hK, hap, hsx⟩ := id C
  have hl : lv_has ls 3 [(0, .ref (ad k0)), (1, .int x1)] := hl
  unfold mX3_ordersFrom at hf
  refine lv_iload_n hx hb (dc tbX3_ordersFrom_k 0 rfl) rfl (lv_at hl 1 rfl) ?_
  refine lv_if_lt (tgt := 24) hx hb (dc tbX3_ordersFrom_k 1 rfl) rfl (fun c1 => ?_) (fun c1 => ?_)
  · have hf := ite_t c1 hf
    exact tX3_ordersFrom_b24 C hk0 x1 hf _ _ _ hI (lv_sub hl [0, 1] rfl)
  · have hf := ite_f c1 hf
    refine lv_iload_n hx hb (dc tbX3_ordersFrom_k 2 rfl) rfl (lv_at hl 1 rfl) ?_
    refine lv_sipush (v := 256) hx hb (dc tbX3_ordersFrom_k 3 rfl) sp_256 ?_
    refine lv_icmp_ge (tgt := 24) hx hb (dc tbX3_ordersFrom_k 4 rfl) rfl (fun c4 => ?_) (fun c4 => ?_)
    · have hf := ite_t c4 hf
      exact tX3_ordersFrom_b24 C hk0 x1 hf _ _ _ hI (lv_sub hl [0, 1] rfl)
    · have hf := ite_f c4 hf
      refine lv_aload_n hx hb (dc tbX3_ordersFrom_k 5 rfl) rfl (lv_at hl 0 rfl) ?_
      refine gg3_8 hx hb hts hown hK hI hk0.1 q_t2_16 (dc tbX3_ordersFrom_k 6 rfl) ?_
      refine lv_iload_n hx hb (dc tbX3_ordersFrom_k 7 rfl) rfl (lv_at hl 1 rfl) ?_
      obtain ⟨h5, hf⟩ := chk_s hf
      refine g_zald hx hb hK hI hk0.2.2.2.2.2.1 (okb_in h5) (dc tbX3_ordersFrom_k 8 rfl) ?_
      refine lv_if_eq (tgt := 24) hx hb (dc tbX3_ordersFrom_k 9 rfl) rfl (fun c6 => ?_) (fun c6 => ?_)
      · have hf := ite_t c6 hf
        exact tX3_ordersFrom_b24 C hk0 x1 hf _ _ _ hI (lv_sub hl [0, 1] rfl)
      · have hf := ite_f c6 hf
        refine lv_iconst (v := 1) hx hb (dc tbX3_ordersFrom_k 10 rfl) ic_1 ?_
        refine lv_goto (tgt := 25) hx hb (dc tbX3_ordersFrom_k 11 rfl) rfl ?_
        exact tX3_ordersFrom_b25 C hk0 x1 (1 : Int32) hf _ _ _ hI (lv_sub hl [0, 1] rfl)
theorem cv_X3_ordersFrom : cvF RX3 yX3_ordersFrom cX3_ordersFrom 3 (some .long) 1 := ⟨q_t3_140, q_t3_141, q_t1_6, q_t3_142, by decide +kernel⟩
def mX3_stepsAtTheEnd_b68 (k0 : Nat) (k1 : Nat) (M : Mem) (ih10 : Int32 → Int32 → Int32 → Option Int32) (x2 : Int32) (x3 : Int32) (x4 : Int32) : Option Int32 := bnd (x4 + (1 : Int32)) (fun x4_68 => ih10 x2 x3 x4_68)
set_option maxHeartbeats 4000000 in
set_option maxRecDepth 100000 in
theorem tX3_stepsAtTheEnd_b68 {p : Program} {l : Launch} {e : Env} {s : State} {m : MethodId} {args : Array Value} {below : List Frame} {meth : Method} {c : Code} {G : GT} {kd : Nat → Nat × Nat} {ad : Nat → Nat} (C : Cx p s m args meth c cX3_stepsAtTheEnd 6 (some .int) RX3 G kd ad) {k0 : Nat} {k1 : Nat} (hk0 : kPlanner kd k0) (hk1 : kPart kd k1) {M : Mem} {vo : Int32} {ih10 : Int32 → Int32 → Int32 → Option Int32} (hih10 : ∀ (x2 : Int32) (x3 : Int32) (x4 : Int32), ih10 x2 x3 x4 = some vo → At p l e (rmO 2 0 0) s m args below meth c 0 0 (MQ below (Qg G kd ad s.heap.size M (some (.int vo))) args s 0 0 (AS kd ad s.heap.size)) G kd ad 6 10 [(0, .ref (ad k0)), (1, .ref (ad k1)), (2, .int x2), (3, .int x3), (4, .int x4)] [] M) : ∀ (x2 : Int32) (x3 : Int32) (x4 : Int32), mX3_stepsAtTheEnd_b68 k0 k1 M ih10 x2 x3 x4 = some vo → At p l e (rmO 2 0 0) s m args below meth c 0 0 (MQ below (Qg G kd ad s.heap.size M (some (.int vo))) args s 0 0 (AS kd ad s.heap.size)) G kd ad 6 68 [(0, .ref (ad k0)), (1, .ref (ad k1)), (2, .int x2), (3, .int x3), (4, .int x4)] [] M := by
  intro x2 x3 x4 hf H locs ls hI hl
  obtain ⟨hx, hb, hml, hr, hown, hts, hlk, hK, hap, hsx⟩ := id C
  unfold mX3_stepsAtTheEnd_b68 at hf
  obtain ⟨x4_68, e11, hf⟩ := bnd_s hf
  refine lv_iinc (v := x4_68) (lv' := [(4, .int x4_68), (0, .ref (ad k0)), (1, .ref (ad k1)), (2, .int x2), (3, .int x3)]) hx hb (dc tbX3_stepsAtTheEnd_1_k 1 rfl) hl (k := 4) rfl (ii_e e11 ic_1) (by decide) rfl (fun ls hl => ?_)
  refine lv_goto (tgt := 10) hx hb (dc tbX3_stepsAtTheEnd_1_k 2 rfl) rfl ?_
  exact hih10 x2 x3 x4_68 hf _ _ _ hI (lv_sub hl [1, 2, 3, 4, 0] rfl)
def mX3_stepsAtTheEnd_b10 (k0 : Nat) (k1 : Nat) (M : Mem) (ih10 : Int32 → Int32 → Int32 → Option Int32) (x2 : Int32) (x3 : Int32) (x4 : Int32) : Option Int32 := cap (mX1_bendCount k1 M) (fun r5 => ite2 (r5 ≤ x4) (some x3) (ite2 ((8 : Int32) ≤ x4) (some x3) (bnd ((x2 &&& (((1 : Int32) <<< (x4 &&& 31)) ^^^ (-1 : Int32)))) (fun x5_34 => ite2 ((((rd M k1 13) >>> (x4 &&& 31)) &&& (1 : Int32)) = 0) (chk (okb x5_34 256) (ite2 ((rd M (k0 + 18) (x5_34).toNatClampNeg) = 0) (mX3_stepsAtTheEnd_b68 k0 k1 M ih10 x2 x3 x4) (chk (okb x5_34 256) (bnd ((x3 ||| (rd M (k0 + 17) (x5_34).toNatClampNeg))) (fun x3_67 => mX3_stepsAtTheEnd_b68 k0 k1 M ih10 x2 x3_67 x4))))) (mX3_stepsAtTheEnd_b68 k0 k1 M ih10 x2 x3 x4)))))
set_option maxHeartbeats 4000000 in
set_option maxRecDepth 100000 in
theorem tX3_stepsAtTheEnd_b10 {p : Program} {l : Launch} {e : Env} {s : State} {m : MethodId} {args : Array Value} {below : List Frame} {meth : Method} {c : Code} {G : GT} {kd : Nat → Nat × Nat} {ad : Nat → Nat} (C : Cx p s m args meth c cX3_stepsAtTheEnd 6 (some .int) RX3 G kd ad) {k0 : Nat} {k1 : Nat} (hk0 : kPlanner kd k0) (hk1 : kPart kd k1) {M : Mem} {vo : Int32} {ih10 : Int32 → Int32 → Int32 → Option Int32} (hih10 : ∀ (x2 : Int32) (x3 : Int32) (x4 : Int32), ih10 x2 x3 x4 = some vo → At p l e (rmO 2 0 0) s m args below meth c 0 0 (MQ below (Qg G kd ad s.heap.size M (some (.int vo))) args s 0 0 (AS kd ad s.heap.size)) G kd ad 6 10 [(0, .ref (ad k0)), (1, .ref (ad k1)), (2, .int x2), (3, .int x3), (4, .int x4)] [] M) : ∀ (x2 : Int32) (x3 : Int32) (x4 : Int32), mX3_stepsAtTheEnd_b10 k0 k1 M ih10 x2 x3 x4 = some vo → At p l e (rmO 2 0 0) s m args below meth c 0 0 (MQ below (Qg G kd ad s.heap.size M (some (.int vo))) args s 0 0 (AS kd ad s.heap.size)) G kd ad 6 10 [(0, .ref (ad k0)), (1, .ref (ad k1)), (2, .int x2), (3, .int x3), (4, .int x4)] [] M := by
  intro x2 x3 x4 hf H locs ls hI hl
  obtain ⟨hx, hb, hml, hr, hown, hts, hlk, hK, hap, hsx⟩ := id C
  unfold mX3_stepsAtTheEnd_b10 at hf
  refine lv_iload hx hb (dc tbX3_stepsAtTheEnd_0_k 7 rfl) (lv_at hl 4 rfl) ?_
  refine lv_aload_n hx hb (dc tbX3_stepsAtTheEnd_0_k 8 rfl) rfl (lv_at hl 1 rfl) ?_
  obtain ⟨r5, q4, hf⟩ := cap_s hf
  refine g_callVi hx hb hml hown hts hK hap hsx hI (tX1_bendCount l hk1 q4 H.size) cv_X1_bendCount q_t3_94 rfl rfl ⟨Nat.le_of_ble_eq_true rfl, Nat.le_of_ble_eq_true rfl⟩ hk1.1 (by simp) rfl rfl rfl hl.1 rfl (Nat.le_of_ble_eq_true rfl) (dc tbX3_stepsAtTheEnd_0_k 9 rfl) ⟨Nat.le_of_ble_eq_true rfl, Nat.le_of_ble_eq_true rfl⟩ (fun H locs hI => ?_)
  refine lv_icmp_ge (tgt := 74) hx hb (dc tbX3_stepsAtTheEnd_0_k 10 rfl) rfl (fun c7 => ?_) (fun c7 => ?_)
  · have hf := ite_t c7 hf
    refine lv_iload_n hx hb (dc tbX3_stepsAtTheEnd_1_k 3 rfl) rfl (lv_at hl 3 rfl) ?_
    cases hf
    exact g_iret hx hb hr hlk hI (dc tbX3_stepsAtTheEnd_1_k 4 rfl)
  · have hf := ite_f c7 hf
    refine lv_iload hx hb (dc tbX3_stepsAtTheEnd_0_k 11 rfl) (lv_at hl 4 rfl) ?_
    refine lv_bipush (v := 8) hx hb (dc tbX3_stepsAtTheEnd_0_k 12 rfl) bp_8 ?_
    refine lv_icmp_ge (tgt := 74) hx hb (dc tbX3_stepsAtTheEnd_0_k 13 rfl) rfl (fun c8 => ?_) (fun c8 => ?_)
    · have hf := ite_t c8 hf
      refine lv_iload_n hx hb (dc tbX3_stepsAtTheEnd_1_k 3 rfl) rfl (lv_at hl 3 rfl) ?_
      cases hf
      exact g_iret hx hb hr hlk hI (dc tbX3_stepsAtTheEnd_1_k 4 rfl)
    · have hf := ite_f c8 hf
      refine lv_iload_n hx hb (dc tbX3_stepsAtTheEnd_0_k 14 rfl) rfl (lv_at hl 2 rfl) ?_
      refine lv_iconst (v := 1) hx hb (dc tbX3_stepsAtTheEnd_0_k 15 rfl) ic_1 ?_
      refine lv_iload hx hb (dc tbX3_stepsAtTheEnd_0_k 16 rfl) (lv_at hl 4 rfl) ?_
      refine lv_ishl hx hb (dc tbX3_stepsAtTheEnd_0_k 17 rfl) ?_
      refine lv_iconst (v := -1) hx hb (dc tbX3_stepsAtTheEnd_0_k 18 rfl) ic_m1 ?_
      refine lv_ixor hx hb (dc tbX3_stepsAtTheEnd_0_k 19 rfl) ?_
      refine lv_iand hx hb (dc tbX3_stepsAtTheEnd_0_k 20 rfl) ?_
      obtain ⟨x5_34, e9, hf⟩ := bnd_s hf
      refine lv_ei e9 ?_
      refine lv_istore (lv' := [(5, .int x5_34), (0, .ref (ad k0)), (1, .ref (ad k1)), (2, .int x2), (3, .int x3), (4, .int x4)]) hx hb (dc tbX3_stepsAtTheEnd_0_k 21 rfl) hl (by decide) rfl (fun ls hl => ?_)
      refine lv_aload_n hx hb (dc tbX3_stepsAtTheEnd_0_k 22 rfl) rfl (lv_at hl 2 rfl) ?_
      refine gg1_13 hx hb hts hown hK hI hk1.1 q_t1_127 (dc tbX3_stepsAtTheEnd_0_k 23 rfl) ?_
      refine lv_iload hx hb (dc tbX3_stepsAtTheEnd_0_k 24 rfl) (lv_at hl 5 rfl) ?_
      refine lv_ishr hx hb (dc tbX3_stepsAtTheEnd_0_k 25 rfl) ?_
      refine lv_iconst (v := 1) hx hb (dc tbX3_stepsAtTheEnd_0_k 26 rfl) ic_1 ?_
      refine lv_iand hx hb (dc tbX3_stepsAtTheEnd_0_k 27 rfl) ?_
      refine lv_if_ne (tgt := 68) hx hb (dc tbX3_stepsAtTheEnd_0_k 28 rfl) rfl (fun c10 => ?_) (fun c10 => ?_)
      · have hf := ite_f c10 hf
        exact tX3_stepsAtTheEnd_b68 C hk0 hk1 hih10 x2 x3 x4 hf _ _ _ hI (lv_sub hl [1, 2, 3, 4, 5] rfl)
      · have hf := ite_t c10 hf
        refine lv_aload_n hx hb (dc tbX3_stepsAtTheEnd_0_k 29 rfl) rfl (lv_at hl 1 rfl) ?_
        refine gg3_8 hx hb hts hown hK hI hk0.1 q_t2_16 (dc tbX3_stepsAtTheEnd_0_k 30 rfl) ?_
        refine lv_iload hx hb (dc tbX3_stepsAtTheEnd_0_k 31 rfl) (lv_at hl 0 rfl) ?_
        obtain ⟨h12, hf⟩ := chk_s hf
        refine g_zald hx hb hK hI hk0.2.2.2.2.2.1 (okb_in h12) (dc tbX3_stepsAtTheEnd_0_k 32 rfl) ?_
        refine lv_if_eq (tgt := 68) hx hb (dc tbX3_stepsAtTheEnd_0_k 33 rfl) rfl (fun c13 => ?_) (fun c13 => ?_)
        · have hf := ite_t c13 hf
          exact tX3_stepsAtTheEnd_b68 C hk0 hk1 hih10 x2 x3 x4 hf _ _ _ hI (lv_sub hl [1, 2, 3, 4, 5] rfl)
        · have hf := ite_f c13 hf
          refine lv_iload_n hx hb (dc tbX3_stepsAtTheEnd_0_k 34 rfl) rfl (lv_at hl 4 rfl) ?_
          refine lv_aload_n hx hb (dc tbX3_stepsAtTheEnd_0_k 35 rfl) rfl (lv_at hl 1 rfl) ?_
          refine gg3_7 hx hb hts hown hK hI hk0.1 q_t2_15 (dc tbX3_stepsAtTheEnd_0_k 36 rfl) ?_
          refine lv_iload hx hb (dc tbX3_stepsAtTheEnd_0_k 37 rfl) (lv_at hl 0 rfl) ?_
          obtain ⟨h14, hf⟩ := chk_s hf
          refine g_iald hx hb hK hI hk0.2.2.2.2.1 (okb_in h14) (dc tbX3_stepsAtTheEnd_0_k 38 rfl) ?_
          refine lv_ior hx hb (dc tbX3_stepsAtTheEnd_0_k 39 rfl) ?_
          obtain ⟨x3_67, e15, hf⟩ := bnd_s hf
          refine lv_ei e15 ?_
          refine lv_istore_n (lv' := [(3, .int x3_67), (5, .int x5_34), (0, .ref (ad k0)), (1, .ref (ad k1)), (2, .int x2), (4, .int x4)]) hx hb (dc tbX3_stepsAtTheEnd_1_k 0 rfl) rfl hl (by decide) rfl (fun ls hl => ?_)
          exact tX3_stepsAtTheEnd_b68 C hk0 hk1 hih10 x2 x3_67 x4 hf _ _ _ hI (lv_sub hl [2, 3, 4, 0, 5] rfl)
def mX3_stepsAtTheEnd_l10 (k0 : Nat) (k1 : Nat) (M : Mem) : Nat → Int32 → Int32 → Int32 → Option Int32
  | 0 => fun _ _ _ => none
  | n + 1 => mX3_stepsAtTheEnd_b10 k0 k1 M (mX3_stepsAtTheEnd_l10 k0 k1 M n)
theorem tX3_stepsAtTheEnd_l10 {p : Program} {l : Launch} {e : Env} {s : State} {m : MethodId} {args : Array Value} {below : List Frame} {meth : Method} {c : Code} {G : GT} {kd : Nat → Nat × Nat} {ad : Nat → Nat} (C : Cx p s m args meth c cX3_stepsAtTheEnd 6 (some .int) RX3 G kd ad) {k0 : Nat} {k1 : Nat} (hk0 : kPlanner kd k0) (hk1 : kPart kd k1) {M : Mem} {vo : Int32}   : ∀ (fuel : Nat) (x2 : Int32) (x3 : Int32) (x4 : Int32), mX3_stepsAtTheEnd_l10 k0 k1 M fuel x2 x3 x4 = some vo → At p l e (rmO 2 0 0) s m args below meth c 0 0 (MQ below (Qg G kd ad s.heap.size M (some (.int vo))) args s 0 0 (AS kd ad s.heap.size)) G kd ad 6 10 [(0, .ref (ad k0)), (1, .ref (ad k1)), (2, .int x2), (3, .int x3), (4, .int x4)] [] M := by
  intro fuel
  induction fuel with
  | zero => intro x2 x3 x4 hf; cases hf
  | succ n IH => exact tX3_stepsAtTheEnd_b10 C hk0 hk1 IH
def mX3_stepsAtTheEnd (k0 : Nat) (k1 : Nat) (M : Mem) : Option Int32 := cap (mX1_allBends k1 M) (fun r2 => mX3_stepsAtTheEnd_l10 k0 k1 M 5000 r2 (0 : Int32) (0 : Int32))
set_option maxHeartbeats 4000000 in
set_option maxRecDepth 100000 in
theorem tX3_stepsAtTheEnd (l : Launch) {G : GT} {kd : Nat → Nat × Nat} {ad : Nat → Nat} {k0 : Nat} {k1 : Nat} (hk0 : kPlanner kd k0) (hk1 : kPart kd k1) {M : Mem} {vo : Int32} (hf : mX3_stepsAtTheEnd k0 k1 M = some vo) (n : Nat) : Met l yX3_stepsAtTheEnd (Cond.code yX3_stepsAtTheEnd cX3_stepsAtTheEnd 6 (some .int) :: WA) (rmO 2 0 0) (Pg G kd ad n [.ref (ad k0), .ref (ad k1)] M) (Qg G kd ad n M (some (.int vo))) 0 0 (AS kd ad n) := by
  refine g_body (own := RX3) (by decide) rfl ?_ (Nat.le_of_ble_eq_true rfl)
  intro p e s m args below meth c C _ H locs ls hI hl
  obtain ⟨hx, hb, hml, hr, hown, hts, hlk, hK, hap, hsx⟩ := id C
  have hl : lv_has ls 6 [(0, .ref (ad k0)), (1, .ref (ad k1))] := hl
  unfold mX3_stepsAtTheEnd at hf
  refine lv_aload_n hx hb (dc tbX3_stepsAtTheEnd_0_k 0 rfl) rfl (lv_at hl 1 rfl) ?_
  obtain ⟨r2, q1, hf⟩ := cap_s hf
  refine g_callVi hx hb hml hown hts hK hap hsx hI (tX1_allBends l hk1 q1 H.size) cv_X1_allBends q_t3_108 rfl rfl ⟨Nat.le_of_ble_eq_true rfl, Nat.le_of_ble_eq_true rfl⟩ hk1.1 (by simp) rfl rfl rfl hl.1 rfl (Nat.le_of_ble_eq_true rfl) (dc tbX3_stepsAtTheEnd_0_k 1 rfl) ⟨Nat.le_of_ble_eq_true rfl, Nat.le_of_ble_eq_true rfl⟩ (fun H locs hI => ?_)
  refine lv_istore_n (lv' := [(2, .int r2), (0, .ref (ad k0)), (1, .ref (ad k1))]) hx hb (dc tbX3_stepsAtTheEnd_0_k 2 rfl) rfl hl (by decide) rfl (fun ls hl => ?_)
  refine lv_iconst (v := 0) hx hb (dc tbX3_stepsAtTheEnd_0_k 3 rfl) ic_0 ?_
  refine lv_istore_n (lv' := [(3, .int (0 : Int32)), (2, .int r2), (0, .ref (ad k0)), (1, .ref (ad k1))]) hx hb (dc tbX3_stepsAtTheEnd_0_k 4 rfl) rfl hl (by decide) rfl (fun ls hl => ?_)
  refine lv_iconst (v := 0) hx hb (dc tbX3_stepsAtTheEnd_0_k 5 rfl) ic_0 ?_
  refine lv_istore (lv' := [(4, .int (0 : Int32)), (3, .int (0 : Int32)), (2, .int r2), (0, .ref (ad k0)), (1, .ref (ad k1))]) hx hb (dc tbX3_stepsAtTheEnd_0_k 6 rfl) hl (by decide) rfl (fun ls hl => ?_)
  exact tX3_stepsAtTheEnd_l10 C hk0 hk1 5000 r2 (0 : Int32) (0 : Int32) hf _ _ _ hI (lv_sub hl [3, 4, 2, 1, 0] rfl)
theorem cv_X3_stepsAtTheEnd : cvF RX3 yX3_stepsAtTheEnd cX3_stepsAtTheEnd 6 (some .int) 1 := ⟨q_t3_160, q_t3_161, q_t1_6, q_t3_162, by decide +kernel⟩
def mX3_mostBendsFrom_b29 (k0 : Nat) (k1 : Nat) (M : Mem) (ih4 : Int32 → Int32 → Option Int32) (x2 : Int32) (x3 : Int32) : Option Int32 := bnd (x3 + (1 : Int32)) (fun x3_29 => ih4 x2 x3_29)
set_option maxHeartbeats 4000000 in
set_option maxRecDepth 100000 in
theorem tX3_mostBendsFrom_b29 {p : Program} {l : Launch} {e : Env} {s : State} {m : MethodId} {args : Array Value} {below : List Frame} {meth : Method} {c : Code} {G : GT} {kd : Nat → Nat × Nat} {ad : Nat → Nat} (C : Cx p s m args meth c cX3_mostBendsFrom 4 (some .int) RX3 G kd ad) {k0 : Nat} {k1 : Nat} (hk0 : kPlanner kd k0) (hk1 : kPart kd k1) {M : Mem} {vo : Int32} {ih4 : Int32 → Int32 → Option Int32} (hih4 : ∀ (x2 : Int32) (x3 : Int32), ih4 x2 x3 = some vo → At p l e (rmO 1 0 0) s m args below meth c 0 0 (MQ below (Qg G kd ad s.heap.size M (some (.int vo))) args s 0 0 (AS kd ad s.heap.size)) G kd ad 4 4 [(0, .ref (ad k0)), (1, .ref (ad k1)), (2, .int x2), (3, .int x3)] [] M) : ∀ (x2 : Int32) (x3 : Int32), mX3_mostBendsFrom_b29 k0 k1 M ih4 x2 x3 = some vo → At p l e (rmO 1 0 0) s m args below meth c 0 0 (MQ below (Qg G kd ad s.heap.size M (some (.int vo))) args s 0 0 (AS kd ad s.heap.size)) G kd ad 4 29 [(0, .ref (ad k0)), (1, .ref (ad k1)), (2, .int x2), (3, .int x3)] [] M := by
  intro x2 x3 hf H locs ls hI hl
  obtain ⟨hx, hb, hml, hr, hown, hts, hlk, hK, hap, hsx⟩ := id C
  unfold mX3_mostBendsFrom_b29 at hf
  obtain ⟨x3_29, e7, hf⟩ := bnd_s hf
  refine lv_iinc (v := x3_29) (lv' := [(3, .int x3_29), (0, .ref (ad k0)), (1, .ref (ad k1)), (2, .int x2)]) hx hb (dc tbX3_mostBendsFrom_k 17 rfl) hl (k := 3) rfl (ii_e e7 ic_1) (by decide) rfl (fun ls hl => ?_)
  refine lv_goto (tgt := 4) hx hb (dc tbX3_mostBendsFrom_k 18 rfl) rfl ?_
  exact hih4 x2 x3_29 hf _ _ _ hI (lv_sub hl [1, 2, 3, 0] rfl)
def mX3_mostBendsFrom_b4 (k0 : Nat) (k1 : Nat) (M : Mem) (ih4 : Int32 → Int32 → Option Int32) (x2 : Int32) (x3 : Int32) : Option Int32 := ite2 ((256 : Int32) ≤ x3) (cap (mJ6_bitCount_0f7a4 (rd M k1 13) M) (fun r3 => some (x2 - r3))) (chk (okb x3 256) (ite2 ((rd M (k0 + 18) (x3).toNatClampNeg) = 0) (mX3_mostBendsFrom_b29 k0 k1 M ih4 x2 x3) (cap (mJ6_bitCount_0f7a4 x3 M) (fun r9 => bnd ((imax x2 r9)) (fun x2_28 => mX3_mostBendsFrom_b29 k0 k1 M ih4 x2_28 x3)))))
set_option maxHeartbeats 4000000 in
set_option maxRecDepth 100000 in
theorem tX3_mostBendsFrom_b4 {p : Program} {l : Launch} {e : Env} {s : State} {m : MethodId} {args : Array Value} {below : List Frame} {meth : Method} {c : Code} {G : GT} {kd : Nat → Nat × Nat} {ad : Nat → Nat} (C : Cx p s m args meth c cX3_mostBendsFrom 4 (some .int) RX3 G kd ad) {k0 : Nat} {k1 : Nat} (hk0 : kPlanner kd k0) (hk1 : kPart kd k1) {M : Mem} {vo : Int32} {ih4 : Int32 → Int32 → Option Int32} (hih4 : ∀ (x2 : Int32) (x3 : Int32), ih4 x2 x3 = some vo → At p l e (rmO 1 0 0) s m args below meth c 0 0 (MQ below (Qg G kd ad s.heap.size M (some (.int vo))) args s 0 0 (AS kd ad s.heap.size)) G kd ad 4 4 [(0, .ref (ad k0)), (1, .ref (ad k1)), (2, .int x2), (3, .int x3)] [] M) : ∀ (x2 : Int32) (x3 : Int32), mX3_mostBendsFrom_b4 k0 k1 M ih4 x2 x3 = some vo → At p l e (rmO 1 0 0) s m args below meth c 0 0 (MQ below (Qg G kd ad s.heap.size M (some (.int vo))) args s 0 0 (AS kd ad s.heap.size)) G kd ad 4 4 [(0, .ref (ad k0)), (1, .ref (ad k1)), (2, .int x2), (3, .int x3)] [] M := by
  intro x2 x3 hf H locs ls hI hl
  obtain ⟨hx, hb, hml, hr, hown, hts, hlk, hK, hap, hsx⟩ := id C
  unfold mX3_mostBendsFrom_b4 at hf
  refine lv_iload_n hx hb (dc tbX3_mostBendsFrom_k 4 rfl) rfl (lv_at hl 3 rfl) ?_
  refine lv_sipush (v := 256) hx hb (dc tbX3_mostBendsFrom_k 5 rfl) sp_256 ?_
  refine lv_icmp_ge (tgt := 35) hx hb (dc tbX3_mostBendsFrom_k 6 rfl) rfl (fun c1 => ?_) (fun c1 => ?_)
  · have hf := ite_t c1 hf
    refine lv_iload_n hx hb (dc tbX3_mostBendsFrom_k 19 rfl) rfl (lv_at hl 2 rfl) ?_
    refine lv_aload_n hx hb (dc tbX3_mostBendsFrom_k 20 rfl) rfl (lv_at hl 1 rfl) ?_
    refine gg1_13 hx hb hts hown hK hI hk1.1 q_t1_127 (dc tbX3_mostBendsFrom_k 21 rfl) ?_
    obtain ⟨r3, q2, hf⟩ := cap_s hf
    refine g_callSi hx hb hml hown hts hK hap hsx hI (tJ6_bitCount_0f7a4 l  q2 H.size) cs_J6_bitCount_0f7a4 q_t3_171 rfl rfl ⟨Nat.le_of_ble_eq_true rfl, Nat.le_of_ble_eq_true rfl⟩ rfl hl.1 rfl (Nat.le_of_ble_eq_true rfl) (dc tbX3_mostBendsFrom_k 22 rfl) ⟨Nat.le_of_ble_eq_true rfl, Nat.le_of_ble_eq_true rfl⟩ (fun H locs hI => ?_)
    refine lv_isub hx hb (dc tbX3_mostBendsFrom_k 23 rfl) ?_
    cases hf
    exact g_iret hx hb hr hlk hI (dc tbX3_mostBendsFrom_k 24 rfl)
  · have hf := ite_f c1 hf
    refine lv_aload_n hx hb (dc tbX3_mostBendsFrom_k 7 rfl) rfl (lv_at hl 0 rfl) ?_
    refine gg3_8 hx hb hts hown hK hI hk0.1 q_t2_16 (dc tbX3_mostBendsFrom_k 8 rfl) ?_
    refine lv_iload_n hx hb (dc tbX3_mostBendsFrom_k 9 rfl) rfl (lv_at hl 3 rfl) ?_
    obtain ⟨h5, hf⟩ := chk_s hf
    refine g_zald hx hb hK hI hk0.2.2.2.2.2.1 (okb_in h5) (dc tbX3_mostBendsFrom_k 10 rfl) ?_
    refine lv_if_eq (tgt := 29) hx hb (dc tbX3_mostBendsFrom_k 11 rfl) rfl (fun c6 => ?_) (fun c6 => ?_)
    · have hf := ite_t c6 hf
      exact tX3_mostBendsFrom_b29 C hk0 hk1 hih4 x2 x3 hf _ _ _ hI (lv_sub hl [0, 1, 2, 3] rfl)
    · have hf := ite_f c6 hf
      refine lv_iload_n hx hb (dc tbX3_mostBendsFrom_k 12 rfl) rfl (lv_at hl 2 rfl) ?_
      refine lv_iload_n hx hb (dc tbX3_mostBendsFrom_k 13 rfl) rfl (lv_at hl 3 rfl) ?_
      obtain ⟨r9, q8, hf⟩ := cap_s hf
      refine g_callSi hx hb hml hown hts hK hap hsx hI (tJ6_bitCount_0f7a4 l  q8 H.size) cs_J6_bitCount_0f7a4 q_t3_171 rfl rfl ⟨Nat.le_of_ble_eq_true rfl, Nat.le_of_ble_eq_true rfl⟩ rfl hl.1 rfl (Nat.le_of_ble_eq_true rfl) (dc tbX3_mostBendsFrom_k 14 rfl) ⟨Nat.le_of_ble_eq_true rfl, Nat.le_of_ble_eq_true rfl⟩ (fun H locs hI => ?_)
      refine va_mmax hx hb (hml.trans hl.1.symm) hown (hts _ q_t3_177) (hts _ q_t2_203) (hts _ q_t1_22) (hts _ q_t2_204) (Nat.le_of_ble_eq_true rfl) (Nat.le_of_ble_eq_true rfl) (Nat.le_of_ble_eq_true rfl) (Nat.le_of_ble_eq_true rfl) (dc tbX3_mostBendsFrom_k 15 rfl) ?_
      refine lv_et (show (if _ then _ else _) = (imax x2 r9) from rfl) ?_
      obtain ⟨x2_28, e11, hf⟩ := bnd_s hf
      refine lv_ei e11 ?_
      refine lv_istore_n (lv' := [(2, .int x2_28), (0, .ref (ad k0)), (1, .ref (ad k1)), (3, .int x3)]) hx hb (dc tbX3_mostBendsFrom_k 16 rfl) rfl hl (by decide) rfl (fun ls hl => ?_)
      exact tX3_mostBendsFrom_b29 C hk0 hk1 hih4 x2_28 x3 hf _ _ _ hI (lv_sub hl [1, 2, 0, 3] rfl)
def mX3_mostBendsFrom_l4 (k0 : Nat) (k1 : Nat) (M : Mem) : Nat → Int32 → Int32 → Option Int32
  | 0 => fun _ _ => none
  | n + 1 => mX3_mostBendsFrom_b4 k0 k1 M (mX3_mostBendsFrom_l4 k0 k1 M n)
theorem tX3_mostBendsFrom_l4 {p : Program} {l : Launch} {e : Env} {s : State} {m : MethodId} {args : Array Value} {below : List Frame} {meth : Method} {c : Code} {G : GT} {kd : Nat → Nat × Nat} {ad : Nat → Nat} (C : Cx p s m args meth c cX3_mostBendsFrom 4 (some .int) RX3 G kd ad) {k0 : Nat} {k1 : Nat} (hk0 : kPlanner kd k0) (hk1 : kPart kd k1) {M : Mem} {vo : Int32}   : ∀ (fuel : Nat) (x2 : Int32) (x3 : Int32), mX3_mostBendsFrom_l4 k0 k1 M fuel x2 x3 = some vo → At p l e (rmO 1 0 0) s m args below meth c 0 0 (MQ below (Qg G kd ad s.heap.size M (some (.int vo))) args s 0 0 (AS kd ad s.heap.size)) G kd ad 4 4 [(0, .ref (ad k0)), (1, .ref (ad k1)), (2, .int x2), (3, .int x3)] [] M := by
  intro fuel
  induction fuel with
  | zero => intro x2 x3 hf; cases hf
  | succ n IH => exact tX3_mostBendsFrom_b4 C hk0 hk1 IH
def mX3_mostBendsFrom (k0 : Nat) (k1 : Nat) (M : Mem) : Option Int32 := mX3_mostBendsFrom_l4 k0 k1 M 5000 (0 : Int32) (0 : Int32)
set_option maxHeartbeats 4000000 in
set_option maxRecDepth 100000 in
theorem tX3_mostBendsFrom (l : Launch) {G : GT} {kd : Nat → Nat × Nat} {ad : Nat → Nat} {k0 : Nat} {k1 : Nat} (hk0 : kPlanner kd k0) (hk1 : kPart kd k1) {M : Mem} {vo : Int32} (hf : mX3_mostBendsFrom k0 k1 M = some vo) (n : Nat) : Met l yX3_mostBendsFrom (Cond.code yX3_mostBendsFrom cX3_mostBendsFrom 4 (some .int) :: WA) (rmO 1 0 0) (Pg G kd ad n [.ref (ad k0), .ref (ad k1)] M) (Qg G kd ad n M (some (.int vo))) 0 0 (AS kd ad n) := by
  refine g_body (own := RX3) (by decide) rfl ?_ (Nat.le_of_ble_eq_true rfl)
  intro p e s m args below meth c C _ H locs ls hI hl
  obtain ⟨hx, hb, hml, hr, hown, hts, hlk, hK, hap, hsx⟩ := id C
  have hl : lv_has ls 4 [(0, .ref (ad k0)), (1, .ref (ad k1))] := hl
  unfold mX3_mostBendsFrom at hf
  refine lv_iconst (v := 0) hx hb (dc tbX3_mostBendsFrom_k 0 rfl) ic_0 ?_
  refine lv_istore_n (lv' := [(2, .int (0 : Int32)), (0, .ref (ad k0)), (1, .ref (ad k1))]) hx hb (dc tbX3_mostBendsFrom_k 1 rfl) rfl hl (by decide) rfl (fun ls hl => ?_)
  refine lv_iconst (v := 0) hx hb (dc tbX3_mostBendsFrom_k 2 rfl) ic_0 ?_
  refine lv_istore_n (lv' := [(3, .int (0 : Int32)), (2, .int (0 : Int32)), (0, .ref (ad k0)), (1, .ref (ad k1))]) hx hb (dc tbX3_mostBendsFrom_k 3 rfl) rfl hl (by decide) rfl (fun ls hl => ?_)
  exact tX3_mostBendsFrom_l4 C hk0 hk1 5000 (0 : Int32) (0 : Int32) hf _ _ _ hI (lv_sub hl [2, 3, 1, 0] rfl)
theorem cv_X3_mostBendsFrom : cvF RX3 yX3_mostBendsFrom cX3_mostBendsFrom 4 (some .int) 1 := ⟨q_t3_168, q_t3_169, q_t1_6, q_t3_170, by decide +kernel⟩
