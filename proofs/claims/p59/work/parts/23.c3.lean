def mX3_forgetSteps_b2 (k0 : Nat) (ih2 : Int32 → Mem → Option (Mem × Unit)) (x1 : Int32) (M : Mem) : Option (Mem × Unit) := ite2 ((256 : Int32) ≤ x1) (some (M, ())) (chk (okb x1 256) (bnd (wr M (k0 + 17) (x1).toNatClampNeg (-1 : Int32)) (fun M4 => bnd (x1 + (1 : Int32)) (fun x1_16 => ih2 x1_16 M4))))
set_option maxHeartbeats 4000000 in
set_option maxRecDepth 100000 in
theorem tX3_forgetSteps_b2 {p : Program} {l : Launch} {e : Env} {s : State} {m : MethodId} {args : Array Value} {below : List Frame} {meth : Method} {c : Code} {G : GT} {kd : Nat → Nat × Nat} {ad : Nat → Nat} (C : Cx p s m args meth c cX3_forgetSteps 2 none RX3 G kd ad) {k0 : Nat} (hk0 : kPlanner kd k0) {MO : Mem} {vo : Unit} {ih2 : Int32 → Mem → Option (Mem × Unit)} (hih2 : ∀ (x1 : Int32) (M : Mem), ih2 x1 M = some (MO, vo) → At p l e (rmO 0 0 0) s m args below meth c 0 0 (MQ below (Qg G kd ad s.heap.size MO none) args s 0 0 (AS kd ad s.heap.size)) G kd ad 2 2 [(0, .ref (ad k0)), (1, .int x1)] [] M) : ∀ (x1 : Int32) (M : Mem), mX3_forgetSteps_b2 k0 ih2 x1 M = some (MO, vo) → At p l e (rmO 0 0 0) s m args below meth c 0 0 (MQ below (Qg G kd ad s.heap.size MO none) args s 0 0 (AS kd ad s.heap.size)) G kd ad 2 2 [(0, .ref (ad k0)), (1, .int x1)] [] M := by
  intro x1 M hf H locs ls hI hl
  obtain ⟨hx, hb, hml, hr, hown, hts, hlk, hK, hap, hsx⟩ := id C
  unfold mX3_forgetSteps_b2 at hf
  refine lv_iload_n hx hb (dc tbX3_forgetSteps_k 2 rfl) rfl (lv_at hl 1 rfl) ?_
  refine lv_sipush (v := 256) hx hb (dc tbX3_forgetSteps_k 3 rfl) sp_256 ?_
  refine lv_icmp_ge (tgt := 22) hx hb (dc tbX3_forgetSteps_k 4 rfl) rfl (fun c1 => ?_) (fun c1 => ?_)
  · have hf := ite_t c1 hf
    cases hf
    exact g_vret hx hb hr hlk hI (dc tbX3_forgetSteps_k 12 rfl)
  · have hf := ite_f c1 hf
    refine lv_aload_n hx hb (dc tbX3_forgetSteps_k 5 rfl) rfl (lv_at hl 0 rfl) ?_
    refine gg3_7 hx hb hts hown hK hI hk0.1 q_t1_236 (dc tbX3_forgetSteps_k 6 rfl) ?_
    refine lv_iload_n hx hb (dc tbX3_forgetSteps_k 7 rfl) rfl (lv_at hl 1 rfl) ?_
    refine lv_iconst (v := -1) hx hb (dc tbX3_forgetSteps_k 8 rfl) ic_m1 ?_
    obtain ⟨h2, hf⟩ := chk_s hf
    obtain ⟨M4, e3, hf⟩ := bnd_s hf
    refine g_iast hx hb hK hap hI hk0.2.2.2.2.1 (okb_in h2) (dc tbX3_forgetSteps_k 9 rfl) e3 (fun H locs hI => ?_)
    obtain ⟨x1_16, e5, hf⟩ := bnd_s hf
    refine lv_iinc (v := x1_16) (lv' := [(1, .int x1_16), (0, .ref (ad k0))]) hx hb (dc tbX3_forgetSteps_k 10 rfl) hl (k := 1) rfl (ii_e e5 ic_1) (by decide) rfl (fun ls hl => ?_)
    refine lv_goto (tgt := 2) hx hb (dc tbX3_forgetSteps_k 11 rfl) rfl ?_
    exact hih2 x1_16 M4 hf _ _ _ hI (lv_sub hl [1, 0] rfl)
def mX3_forgetSteps_l2 (k0 : Nat) : Nat → Int32 → Mem → Option (Mem × Unit)
  | 0 => fun _ _ => none
  | n + 1 => mX3_forgetSteps_b2 k0 (mX3_forgetSteps_l2 k0 n)
theorem tX3_forgetSteps_l2 {p : Program} {l : Launch} {e : Env} {s : State} {m : MethodId} {args : Array Value} {below : List Frame} {meth : Method} {c : Code} {G : GT} {kd : Nat → Nat × Nat} {ad : Nat → Nat} (C : Cx p s m args meth c cX3_forgetSteps 2 none RX3 G kd ad) {k0 : Nat} (hk0 : kPlanner kd k0) {MO : Mem} {vo : Unit}   : ∀ (fuel : Nat) (x1 : Int32) (M : Mem), mX3_forgetSteps_l2 k0 fuel x1 M = some (MO, vo) → At p l e (rmO 0 0 0) s m args below meth c 0 0 (MQ below (Qg G kd ad s.heap.size MO none) args s 0 0 (AS kd ad s.heap.size)) G kd ad 2 2 [(0, .ref (ad k0)), (1, .int x1)] [] M := by
  intro fuel
  induction fuel with
  | zero => intro x1 M hf; cases hf
  | succ n IH => exact tX3_forgetSteps_b2 C hk0 IH
def mX3_forgetSteps (k0 : Nat) (M : Mem) : Option (Mem × Unit) := mX3_forgetSteps_l2 k0 5000 (0 : Int32) M
set_option maxHeartbeats 4000000 in
set_option maxRecDepth 100000 in
theorem tX3_forgetSteps (l : Launch) {G : GT} {kd : Nat → Nat × Nat} {ad : Nat → Nat} {k0 : Nat} (hk0 : kPlanner kd k0) {M : Mem} {MO : Mem} {vo : Unit} (hf : mX3_forgetSteps k0 M = some (MO, vo)) (n : Nat) : Met l yX3_forgetSteps (Cond.code yX3_forgetSteps cX3_forgetSteps 2 none :: WA) (rmO 0 0 0) (Pg G kd ad n [.ref (ad k0)] M) (Qg G kd ad n MO none) 0 0 (AS kd ad n) := by
  refine g_body (own := RX3) (by decide) rfl ?_ (Nat.le_of_ble_eq_true rfl)
  intro p e s m args below meth c C _ H locs ls hI hl
  obtain ⟨hx, hb, hml, hr, hown, hts, hlk, hK, hap, hsx⟩ := id C
  have hl : lv_has ls 2 [(0, .ref (ad k0))] := hl
  unfold mX3_forgetSteps at hf
  refine lv_iconst (v := 0) hx hb (dc tbX3_forgetSteps_k 0 rfl) ic_0 ?_
  refine lv_istore_n (lv' := [(1, .int (0 : Int32)), (0, .ref (ad k0))]) hx hb (dc tbX3_forgetSteps_k 1 rfl) rfl hl (by decide) rfl (fun ls hl => ?_)
  exact tX3_forgetSteps_l2 C hk0 5000 (0 : Int32) M hf _ _ _ hI (lv_sub hl [1, 0] rfl)
theorem cv_X3_forgetSteps : cvF RX3 yX3_forgetSteps cX3_forgetSteps 2 none 0 := ⟨q_t1_227, q_s1_0, q_t1_6, q_t1_228, by decide +kernel⟩
