def mL_load (k0 : Nat) (k1 : Nat) (x1 : Int32) (M : Mem) : Option (Mem × (Int32 ⊕ Nat)) := calt (mX6_load k0 x1 M) (fun M3 r2 => chk (okb (0 : Int32) 1) (bnd (wl M3 k1 ((0 : Int32)).toNatClampNeg (r2).toInt64) (fun M7 => some (M7, Sum.inl (0 : Int32))))) (fun M3 e4 => ite2 (e4 = 0) (some (M3, Sum.inl (1 : Int32))) (none))
set_option maxHeartbeats 4000000 in
set_option maxRecDepth 100000 in
theorem tL_load (l : Launch) (hst : l.stackTraces = false) {G : GT} {kd : Nat → Nat × Nat} {ad : Nat → Nat} {k0 : Nat} {k1 : Nat} (hk0 : kRoot kd k0) (hk1 : kd k1 = (13, 1)) {x1 : Int32} {M : Mem} {MO : Mem} {vo : Int32 ⊕ Nat} (hf : mL_load k0 k1 x1 M = some (MO, vo)) (n : Nat) : vx_Met l yL_load (Cond.codeWith yL_load cL_load 4 (some .int) [(0, 9, 12, 13)] :: WA) (rmO 9 1 6) (Pn G kd ad n [.ref (ad k0), .int x1, .ref (ad k1)] M) (Qx G kd ad n MO (zi vo)) (Xx G kd ad n MO (zi vo)) 1 6 (AS kd ad n) := by
  refine g_bodyXH (own := RL) (by decide) rfl ?_ (Nat.le_of_ble_eq_true rfl)
  intro p e s m args below meth c C htb hnc _ H locs ls hI hl
  obtain ⟨hx, hb, hml, hr, hown, hts, hlk, hK, hap, hsx⟩ := id C
  have hl : lv_has ls 4 [(0, .ref (ad k0)), (1, .int x1), (2, .ref (ad k1))] := hl
  unfold mL_load at hf
  refine lv_aload_n hx hb (dc tbL_load_k 0 rfl) rfl (lv_at hl 2 rfl) ?_
  refine lv_iconst (v := 0) hx hb (dc tbL_load_k 1 rfl) ic_0 ?_
  refine lv_aload_n hx hb (dc tbL_load_k 2 rfl) rfl (lv_at hl 0 rfl) ?_
  refine lv_iload_n hx hb (dc tbL_load_k 3 rfl) rfl (lv_at hl 1 rfl) ?_
  rcases calt_s hf with ⟨M3, r2, q1, hf⟩ | ⟨M3, e4, q1, hf⟩
  · refine x_callRi (g_runXV hx hb hml hown hts hK hap hsx hI (tX6_load l hst hk0 q1 H.size) cv_X6_load q_t5_102 rfl rfl ⟨Nat.le_of_ble_eq_true rfl, Nat.le_of_ble_eq_true rfl⟩ hk0.1 (by simp) rfl rfl rfl hl.1 rfl (Nat.le_of_ble_eq_true rfl) (dc tbL_load_k 4 rfl) ⟨Nat.le_of_ble_eq_true rfl, Nat.le_of_ble_eq_true rfl⟩) hI (fun H locs hI => ?_)
    refine lv_i2l hx hb (dc tbL_load_k 5 rfl) rfl ?_
    obtain ⟨h5, hf⟩ := chk_s hf
    obtain ⟨M7, e6, hf⟩ := bnd_s hf
    refine g_last hx hb hK hap hI hk1 (okb_in h5) (dc tbL_load_k 6 rfl) e6 (fun H locs hI => ?_)
    refine lv_goto (tgt := 15) hx hb (dc tbL_load_k 7 rfl) rfl ?_
    refine lv_iconst (v := 0) hx hb (dc tbL_load_k 11 rfl) ic_0 ?_
    cases hf
    exact x_ret (g_iret hx hb hr hlk hI (dc tbL_load_k 12 rfl))
  · refine by_c (c := e4 = 0) (fun c8 => ?_) (fun c8 => ?_)
    · have hf := ite_t c8 hf
      subst c8
      refine x_callC (E := "java/lang/IllegalArgumentException") (g_runXV hx hb hml hown hts hK hap hsx hI (tX6_load l hst hk0 q1 H.size) cv_X6_load q_t5_102 rfl rfl ⟨Nat.le_of_ble_eq_true rfl, Nat.le_of_ble_eq_true rfl⟩ hk0.1 (by simp) rfl rfl rfl hl.1 rfl (Nat.le_of_ble_eq_true rfl) (dc tbL_load_k 4 rfl) ⟨Nat.le_of_ble_eq_true rfl, Nat.le_of_ble_eq_true rfl⟩) hI hown hts hsx rfl htb [] ⟨0, 9, 12, 13⟩ [] rfl (fun _ h => absurd h List.not_mem_nil) (by decide) (by decide) q_t5_101 (by decide +kernel) rfl (fun qx H locs hI => ?_)
      refine lv_astore_n (lv' := [(3, .ref qx), (0, .ref (ad k0)), (1, .int x1), (2, .ref (ad k1))]) hx hb (dc tbL_load_k 8 rfl) rfl hl (by decide) rfl (fun ls hl => ?_)
      refine lv_iconst (v := 1) hx hb (dc tbL_load_k 9 rfl) ic_1 ?_
      cases hf
      exact x_ret (g_iret hx hb hr hlk hI (dc tbL_load_k 10 rfl))
    · have hf := ite_f c8 hf
      cases hf
theorem ch_L_load : Cond.static yL_load ∈ WA ∧ Cond.initialized yL_load.cls ∈ WA ∧ Cond.codeWith yL_load cL_load 4 (some .int) [(0, 9, 12, 13)] ∈ WA ∧ (yL_load.cls ≠ "java/lang/invoke/MethodHandle" ∧ yL_load.cls ≠ "java/lang/invoke/VarHandle" ∧ (parseMethodDescriptor yL_load.desc).map (fun d => d.parameters.length) = some 3) := ⟨q_t5_99, q_t1_0, q_t5_100, by decide +kernel⟩
def mL_leg (k0 : Nat) (k1 : Nat) (x1 : Int32) (M : Mem) : Option (Mem × (Int32 ⊕ Nat)) := calt (mX6_leg k0 x1 M) (fun M3 r2 => chk (okb (0 : Int32) 1) (bnd (wl M3 k1 ((0 : Int32)).toNatClampNeg (r2).toInt64) (fun M7 => some (M7, Sum.inl (0 : Int32))))) (fun M3 e4 => ite2 (e4 = 1) (some (M3, Sum.inl (1 : Int32))) (none))
set_option maxHeartbeats 4000000 in
set_option maxRecDepth 100000 in
theorem tL_leg (l : Launch) (hst : l.stackTraces = false) {G : GT} {kd : Nat → Nat × Nat} {ad : Nat → Nat} {k0 : Nat} {k1 : Nat} (hk0 : kRoot kd k0) (hk1 : kd k1 = (13, 1)) {x1 : Int32} {M : Mem} {MO : Mem} {vo : Int32 ⊕ Nat} (hf : mL_leg k0 k1 x1 M = some (MO, vo)) (n : Nat) : vx_Met l yL_leg (Cond.codeWith yL_leg cL_leg 4 (some .int) [(0, 9, 12, 18)] :: WA) (rmO 2 1 6) (Pn G kd ad n [.ref (ad k0), .int x1, .ref (ad k1)] M) (Qx G kd ad n MO (zi vo)) (Xx G kd ad n MO (zi vo)) 1 6 (AS kd ad n) := by
  refine g_bodyXH (own := RL) (by decide) rfl ?_ (Nat.le_of_ble_eq_true rfl)
  intro p e s m args below meth c C htb hnc _ H locs ls hI hl
  obtain ⟨hx, hb, hml, hr, hown, hts, hlk, hK, hap, hsx⟩ := id C
  have hl : lv_has ls 4 [(0, .ref (ad k0)), (1, .int x1), (2, .ref (ad k1))] := hl
  unfold mL_leg at hf
  refine lv_aload_n hx hb (dc tbL_leg_k 0 rfl) rfl (lv_at hl 2 rfl) ?_
  refine lv_iconst (v := 0) hx hb (dc tbL_leg_k 1 rfl) ic_0 ?_
  refine lv_aload_n hx hb (dc tbL_leg_k 2 rfl) rfl (lv_at hl 0 rfl) ?_
  refine lv_iload_n hx hb (dc tbL_leg_k 3 rfl) rfl (lv_at hl 1 rfl) ?_
  rcases calt_s hf with ⟨M3, r2, q1, hf⟩ | ⟨M3, e4, q1, hf⟩
  · refine x_callRi (g_runXV hx hb hml hown hts hK hap hsx hI (tX6_leg l hst hk0 q1 H.size) cv_X6_leg q_t6_11 rfl rfl ⟨Nat.le_of_ble_eq_true rfl, Nat.le_of_ble_eq_true rfl⟩ hk0.1 (by simp) rfl rfl rfl hl.1 rfl (Nat.le_of_ble_eq_true rfl) (dc tbL_leg_k 4 rfl) ⟨Nat.le_of_ble_eq_true rfl, Nat.le_of_ble_eq_true rfl⟩) hI (fun H locs hI => ?_)
    refine lv_i2l hx hb (dc tbL_leg_k 5 rfl) rfl ?_
    obtain ⟨h5, hf⟩ := chk_s hf
    obtain ⟨M7, e6, hf⟩ := bnd_s hf
    refine g_last hx hb hK hap hI hk1 (okb_in h5) (dc tbL_leg_k 6 rfl) e6 (fun H locs hI => ?_)
    refine lv_goto (tgt := 15) hx hb (dc tbL_leg_k 7 rfl) rfl ?_
    refine lv_iconst (v := 0) hx hb (dc tbL_leg_k 11 rfl) ic_0 ?_
    cases hf
    exact x_ret (g_iret hx hb hr hlk hI (dc tbL_leg_k 12 rfl))
  · refine by_c (c := e4 = 1) (fun c8 => ?_) (fun c8 => ?_)
    · have hf := ite_t c8 hf
      subst c8
      refine x_callC (E := "java/lang/IndexOutOfBoundsException") (g_runXV hx hb hml hown hts hK hap hsx hI (tX6_leg l hst hk0 q1 H.size) cv_X6_leg q_t6_11 rfl rfl ⟨Nat.le_of_ble_eq_true rfl, Nat.le_of_ble_eq_true rfl⟩ hk0.1 (by simp) rfl rfl rfl hl.1 rfl (Nat.le_of_ble_eq_true rfl) (dc tbL_leg_k 4 rfl) ⟨Nat.le_of_ble_eq_true rfl, Nat.le_of_ble_eq_true rfl⟩) hI hown hts hsx rfl htb [] ⟨0, 9, 12, 18⟩ [] rfl (fun _ h => absurd h List.not_mem_nil) (by decide) (by decide) q_t6_10 (by decide +kernel) rfl (fun qx H locs hI => ?_)
      refine lv_astore_n (lv' := [(3, .ref qx), (0, .ref (ad k0)), (1, .int x1), (2, .ref (ad k1))]) hx hb (dc tbL_leg_k 8 rfl) rfl hl (by decide) rfl (fun ls hl => ?_)
      refine lv_iconst (v := 1) hx hb (dc tbL_leg_k 9 rfl) ic_1 ?_
      cases hf
      exact x_ret (g_iret hx hb hr hlk hI (dc tbL_leg_k 10 rfl))
    · have hf := ite_f c8 hf
      cases hf
theorem ch_L_leg : Cond.static yL_leg ∈ WA ∧ Cond.initialized yL_leg.cls ∈ WA ∧ Cond.codeWith yL_leg cL_leg 4 (some .int) [(0, 9, 12, 18)] ∈ WA ∧ (yL_leg.cls ≠ "java/lang/invoke/MethodHandle" ∧ yL_leg.cls ≠ "java/lang/invoke/VarHandle" ∧ (parseMethodDescriptor yL_leg.desc).map (fun d => d.parameters.length) = some 3) := ⟨q_t6_8, q_t1_0, q_t6_9, by decide +kernel⟩
def mL_isUp_b15 (k0 : Nat) (k1 : Nat) (y1 : Int32) (y2 : Int64) (M : Mem) : Option (Mem × (Int32 ⊕ Nat)) := chk (okb y1 1) (bnd (wl M k1 (y1).toNatClampNeg y2) (fun M8 => some (M8, Sum.inl (0 : Int32))))
set_option maxHeartbeats 4000000 in
set_option maxRecDepth 100000 in
theorem tL_isUp_b15 {p : Program} {l : Launch} {e : Env} {s : State} {m : MethodId} {args : Array Value} {below : List Frame} {meth : Method} {c : Code} {G : GT} {kd : Nat → Nat × Nat} {ad : Nat → Nat} (C : Cx p s m args meth c cL_isUp 4 (some .int) RL G kd ad) (hst : l.stackTraces = false) (htb : c.exceptionTable.toList = tableOf [(0, 16, 19, 18)]) (hnc : Nc s) {k0 : Nat} {k1 : Nat} (hk0 : kRoot kd k0) (hk1 : kd k1 = (13, 1)) {MO : Mem} {vo : Int32 ⊕ Nat}   : ∀ (y1 : Int32) (y2 : Int64) (M : Mem), mL_isUp_b15 k0 k1 y1 y2 M = some (MO, vo) → At p l e (rmO 3 1 6) s m args below meth c 1 6 (XQ G kd ad below args s MO (zi vo) 1 6) G kd ad 4 15 [] [.long y2, .int y1, .ref (ad k1)] M := by
  intro y1 y2 M hf H locs ls hI hl
  obtain ⟨hx, hb, hml, hr, hown, hts, hlk, hK, hap, hsx⟩ := id C
  unfold mL_isUp_b15 at hf
  obtain ⟨h6, hf⟩ := chk_s hf
  obtain ⟨M8, e7, hf⟩ := bnd_s hf
  refine g_last hx hb hK hap hI hk1 (okb_in h6) (dc tbL_isUp_k 9 rfl) e7 (fun H locs hI => ?_)
  refine lv_goto (tgt := 22) hx hb (dc tbL_isUp_k 10 rfl) rfl ?_
  refine lv_iconst (v := 0) hx hb (dc tbL_isUp_k 14 rfl) ic_0 ?_
  cases hf
  exact x_ret (g_iret hx hb hr hlk hI (dc tbL_isUp_k 15 rfl))
def mL_isUp (k0 : Nat) (k1 : Nat) (x1 : Int32) (M : Mem) : Option (Mem × (Int32 ⊕ Nat)) := calt (mX6_isUp k0 x1 M) (fun M3 r2 => ite2 (r2 = 0) (mL_isUp_b15 k0 k1 (0 : Int32) (0 : Int64) M3) (mL_isUp_b15 k0 k1 (0 : Int32) (1 : Int64) M3)) (fun M3 e4 => ite2 (e4 = 1) (some (M3, Sum.inl (1 : Int32))) (none))
set_option maxHeartbeats 4000000 in
set_option maxRecDepth 100000 in
theorem tL_isUp (l : Launch) (hst : l.stackTraces = false) {G : GT} {kd : Nat → Nat × Nat} {ad : Nat → Nat} {k0 : Nat} {k1 : Nat} (hk0 : kRoot kd k0) (hk1 : kd k1 = (13, 1)) {x1 : Int32} {M : Mem} {MO : Mem} {vo : Int32 ⊕ Nat} (hf : mL_isUp k0 k1 x1 M = some (MO, vo)) (n : Nat) : vx_Met l yL_isUp (Cond.codeWith yL_isUp cL_isUp 4 (some .int) [(0, 16, 19, 18)] :: WA) (rmO 3 1 6) (Pn G kd ad n [.ref (ad k0), .int x1, .ref (ad k1)] M) (Qx G kd ad n MO (zi vo)) (Xx G kd ad n MO (zi vo)) 1 6 (AS kd ad n) := by
  refine g_bodyXH (own := RL) (by decide) rfl ?_ (Nat.le_of_ble_eq_true rfl)
  intro p e s m args below meth c C htb hnc _ H locs ls hI hl
  obtain ⟨hx, hb, hml, hr, hown, hts, hlk, hK, hap, hsx⟩ := id C
  have hl : lv_has ls 4 [(0, .ref (ad k0)), (1, .int x1), (2, .ref (ad k1))] := hl
  unfold mL_isUp at hf
  refine lv_aload_n hx hb (dc tbL_isUp_k 0 rfl) rfl (lv_at hl 2 rfl) ?_
  refine lv_iconst (v := 0) hx hb (dc tbL_isUp_k 1 rfl) ic_0 ?_
  refine lv_aload_n hx hb (dc tbL_isUp_k 2 rfl) rfl (lv_at hl 0 rfl) ?_
  refine lv_iload_n hx hb (dc tbL_isUp_k 3 rfl) rfl (lv_at hl 1 rfl) ?_
  rcases calt_s hf with ⟨M3, r2, q1, hf⟩ | ⟨M3, e4, q1, hf⟩
  · refine x_callRi (g_runXV hx hb hml hown hts hK hap hsx hI (tX6_isUp l hst hk0 q1 H.size) cv_X6_isUp q_t6_35 rfl rfl ⟨Nat.le_of_ble_eq_true rfl, Nat.le_of_ble_eq_true rfl⟩ hk0.1 (by simp) rfl rfl rfl hl.1 rfl (Nat.le_of_ble_eq_true rfl) (dc tbL_isUp_k 4 rfl) ⟨Nat.le_of_ble_eq_true rfl, Nat.le_of_ble_eq_true rfl⟩) hI (fun H locs hI => ?_)
    refine lv_if_eq (tgt := 14) hx hb (dc tbL_isUp_k 5 rfl) rfl (fun c5 => ?_) (fun c5 => ?_)
    · have hf := ite_t c5 hf
      refine lv_lconst (v := 0) hx hb (dc tbL_isUp_k 8 rfl) (by decide) ?_
      exact tL_isUp_b15 C hst htb hnc hk0 hk1 (0 : Int32) (0 : Int64) M3 hf _ _ _ hI (lv_sub hl [] rfl)
    · have hf := ite_f c5 hf
      refine lv_lconst (v := 1) hx hb (dc tbL_isUp_k 6 rfl) (by decide) ?_
      refine lv_goto (tgt := 15) hx hb (dc tbL_isUp_k 7 rfl) rfl ?_
      exact tL_isUp_b15 C hst htb hnc hk0 hk1 (0 : Int32) (1 : Int64) M3 hf _ _ _ hI (lv_sub hl [] rfl)
  · refine by_c (c := e4 = 1) (fun c9 => ?_) (fun c9 => ?_)
    · have hf := ite_t c9 hf
      subst c9
      refine x_callC (E := "java/lang/IndexOutOfBoundsException") (g_runXV hx hb hml hown hts hK hap hsx hI (tX6_isUp l hst hk0 q1 H.size) cv_X6_isUp q_t6_35 rfl rfl ⟨Nat.le_of_ble_eq_true rfl, Nat.le_of_ble_eq_true rfl⟩ hk0.1 (by simp) rfl rfl rfl hl.1 rfl (Nat.le_of_ble_eq_true rfl) (dc tbL_isUp_k 4 rfl) ⟨Nat.le_of_ble_eq_true rfl, Nat.le_of_ble_eq_true rfl⟩) hI hown hts hsx rfl htb [] ⟨0, 16, 19, 18⟩ [] rfl (fun _ h => absurd h List.not_mem_nil) (by decide) (by decide) q_t6_10 (by decide +kernel) rfl (fun qx H locs hI => ?_)
      refine lv_astore_n (lv' := [(3, .ref qx), (0, .ref (ad k0)), (1, .int x1), (2, .ref (ad k1))]) hx hb (dc tbL_isUp_k 11 rfl) rfl hl (by decide) rfl (fun ls hl => ?_)
      refine lv_iconst (v := 1) hx hb (dc tbL_isUp_k 12 rfl) ic_1 ?_
      cases hf
      exact x_ret (g_iret hx hb hr hlk hI (dc tbL_isUp_k 13 rfl))
    · have hf := ite_f c9 hf
      cases hf
theorem ch_L_isUp : Cond.static yL_isUp ∈ WA ∧ Cond.initialized yL_isUp.cls ∈ WA ∧ Cond.codeWith yL_isUp cL_isUp 4 (some .int) [(0, 16, 19, 18)] ∈ WA ∧ (yL_isUp.cls ≠ "java/lang/invoke/MethodHandle" ∧ yL_isUp.cls ≠ "java/lang/invoke/VarHandle" ∧ (parseMethodDescriptor yL_isUp.desc).map (fun d => d.parameters.length) = some 3) := ⟨q_t6_33, q_t1_0, q_t6_34, by decide +kernel⟩
def mL_linePlace (k0 : Nat) (k1 : Nat) (x1 : Int32) (M : Mem) : Option (Mem × (Int32 ⊕ Nat)) := calt (mX6_linePlace k0 x1 M) (fun M3 r2 => chk (okb (0 : Int32) 1) (bnd (wd M3 k1 ((0 : Int32)).toNatClampNeg r2) (fun M7 => some (M7, Sum.inl (0 : Int32))))) (fun M3 e4 => ite2 (e4 = 1) (some (M3, Sum.inl (1 : Int32))) (none))
set_option maxHeartbeats 4000000 in
set_option maxRecDepth 100000 in
theorem tL_linePlace (l : Launch) (hst : l.stackTraces = false) {G : GT} {kd : Nat → Nat × Nat} {ad : Nat → Nat} {k0 : Nat} {k1 : Nat} (hk0 : kRoot kd k0) (hk1 : kd k1 = (14, 1)) {x1 : Int32} {M : Mem} {MO : Mem} {vo : Int32 ⊕ Nat} (hf : mL_linePlace k0 k1 x1 M = some (MO, vo)) (n : Nat) : vx_Met l yL_linePlace (Cond.codeWith yL_linePlace cL_linePlace 4 (some .int) [(0, 8, 11, 18)] :: WA) (rmO 3 1 6) (Pn G kd ad n [.ref (ad k0), .int x1, .ref (ad k1)] M) (Qx G kd ad n MO (zi vo)) (Xx G kd ad n MO (zi vo)) 1 6 (AS kd ad n) := by
  refine g_bodyXH (own := RL) (by decide) rfl ?_ (Nat.le_of_ble_eq_true rfl)
  intro p e s m args below meth c C htb hnc _ H locs ls hI hl
  obtain ⟨hx, hb, hml, hr, hown, hts, hlk, hK, hap, hsx⟩ := id C
  have hl : lv_has ls 4 [(0, .ref (ad k0)), (1, .int x1), (2, .ref (ad k1))] := hl
  unfold mL_linePlace at hf
  refine lv_aload_n hx hb (dc tbL_linePlace_k 0 rfl) rfl (lv_at hl 2 rfl) ?_
  refine lv_iconst (v := 0) hx hb (dc tbL_linePlace_k 1 rfl) ic_0 ?_
  refine lv_aload_n hx hb (dc tbL_linePlace_k 2 rfl) rfl (lv_at hl 0 rfl) ?_
  refine lv_iload_n hx hb (dc tbL_linePlace_k 3 rfl) rfl (lv_at hl 1 rfl) ?_
  rcases calt_s hf with ⟨M3, r2, q1, hf⟩ | ⟨M3, e4, q1, hf⟩
  · refine x_callRd (g_runXV hx hb hml hown hts hK hap hsx hI (tX6_linePlace l hst hk0 q1 H.size) cv_X6_linePlace q_t6_47 rfl rfl ⟨Nat.le_of_ble_eq_true rfl, Nat.le_of_ble_eq_true rfl⟩ hk0.1 (by simp) rfl rfl rfl hl.1 rfl (Nat.le_of_ble_eq_true rfl) (dc tbL_linePlace_k 4 rfl) ⟨Nat.le_of_ble_eq_true rfl, Nat.le_of_ble_eq_true rfl⟩) hI (fun H locs hI => ?_)
    obtain ⟨h5, hf⟩ := chk_s hf
    obtain ⟨M7, e6, hf⟩ := bnd_s hf
    refine g_dast hx hb hK hap hI hk1 (okb_in h5) (dc tbL_linePlace_k 5 rfl) e6 (fun H locs hI => ?_)
    refine lv_goto (tgt := 14) hx hb (dc tbL_linePlace_k 6 rfl) rfl ?_
    refine lv_iconst (v := 0) hx hb (dc tbL_linePlace_k 10 rfl) ic_0 ?_
    cases hf
    exact x_ret (g_iret hx hb hr hlk hI (dc tbL_linePlace_k 11 rfl))
  · refine by_c (c := e4 = 1) (fun c8 => ?_) (fun c8 => ?_)
    · have hf := ite_t c8 hf
      subst c8
      refine x_callC (E := "java/lang/IndexOutOfBoundsException") (g_runXV hx hb hml hown hts hK hap hsx hI (tX6_linePlace l hst hk0 q1 H.size) cv_X6_linePlace q_t6_47 rfl rfl ⟨Nat.le_of_ble_eq_true rfl, Nat.le_of_ble_eq_true rfl⟩ hk0.1 (by simp) rfl rfl rfl hl.1 rfl (Nat.le_of_ble_eq_true rfl) (dc tbL_linePlace_k 4 rfl) ⟨Nat.le_of_ble_eq_true rfl, Nat.le_of_ble_eq_true rfl⟩) hI hown hts hsx rfl htb [] ⟨0, 8, 11, 18⟩ [] rfl (fun _ h => absurd h List.not_mem_nil) (by decide) (by decide) q_t6_10 (by decide +kernel) rfl (fun qx H locs hI => ?_)
      refine lv_astore_n (lv' := [(3, .ref qx), (0, .ref (ad k0)), (1, .int x1), (2, .ref (ad k1))]) hx hb (dc tbL_linePlace_k 7 rfl) rfl hl (by decide) rfl (fun ls hl => ?_)
      refine lv_iconst (v := 1) hx hb (dc tbL_linePlace_k 8 rfl) ic_1 ?_
      cases hf
      exact x_ret (g_iret hx hb hr hlk hI (dc tbL_linePlace_k 9 rfl))
    · have hf := ite_f c8 hf
      cases hf
theorem ch_L_linePlace : Cond.static yL_linePlace ∈ WA ∧ Cond.initialized yL_linePlace.cls ∈ WA ∧ Cond.codeWith yL_linePlace cL_linePlace 4 (some .int) [(0, 8, 11, 18)] ∈ WA ∧ (yL_linePlace.cls ≠ "java/lang/invoke/MethodHandle" ∧ yL_linePlace.cls ≠ "java/lang/invoke/VarHandle" ∧ (parseMethodDescriptor yL_linePlace.desc).map (fun d => d.parameters.length) = some 3) := ⟨q_t6_45, q_t1_0, q_t6_46, by decide +kernel⟩
def mL_springBackFor (k0 : Nat) (k1 : Nat) (x1 : UInt64) (M : Mem) : Option (Mem × (Int32 ⊕ Nat)) := calt (mX6_springBackFor k0 x1 M) (fun M3 r2 => chk (okb (0 : Int32) 1) (bnd (wd M3 k1 ((0 : Int32)).toNatClampNeg r2) (fun M7 => some (M7, Sum.inl (0 : Int32))))) (fun M3 e4 => ite2 (e4 = 0) (some (M3, Sum.inl (1 : Int32))) (none))
set_option maxHeartbeats 4000000 in
set_option maxRecDepth 100000 in
theorem tL_springBackFor (l : Launch) (hst : l.stackTraces = false) {G : GT} {kd : Nat → Nat × Nat} {ad : Nat → Nat} {k0 : Nat} {k1 : Nat} (hk0 : kRoot kd k0) (hk1 : kd k1 = (14, 1)) {x1 : UInt64} {M : Mem} {MO : Mem} {vo : Int32 ⊕ Nat} (hf : mL_springBackFor k0 k1 x1 M = some (MO, vo)) (n : Nat) : vx_Met l yL_springBackFor (Cond.codeWith yL_springBackFor cL_springBackFor 5 (some .int) [(0, 8, 11, 13)] :: WA) (rmO 3 1 6) (Pn G kd ad n [.ref (ad k0), .double x1, .ref (ad k1)] M) (Qx G kd ad n MO (zi vo)) (Xx G kd ad n MO (zi vo)) 1 6 (AS kd ad n) := by
  refine g_bodyXH (own := RL) (by decide) rfl ?_ (Nat.le_of_ble_eq_true rfl)
  intro p e s m args below meth c C htb hnc _ H locs ls hI hl
  obtain ⟨hx, hb, hml, hr, hown, hts, hlk, hK, hap, hsx⟩ := id C
  have hl : lv_has ls 5 [(0, .ref (ad k0)), (1, .double x1), (3, .ref (ad k1))] := hl
  unfold mL_springBackFor at hf
  refine lv_aload_n hx hb (dc tbL_springBackFor_k 0 rfl) rfl (lv_at hl 2 rfl) ?_
  refine lv_iconst (v := 0) hx hb (dc tbL_springBackFor_k 1 rfl) ic_0 ?_
  refine lv_aload_n hx hb (dc tbL_springBackFor_k 2 rfl) rfl (lv_at hl 0 rfl) ?_
  refine lv_dload_n hx hb (dc tbL_springBackFor_k 3 rfl) rfl (lv_at hl 1 rfl) ?_
  rcases calt_s hf with ⟨M3, r2, q1, hf⟩ | ⟨M3, e4, q1, hf⟩
  · refine x_callRd (g_runXV hx hb hml hown hts hK hap hsx hI (tX6_springBackFor l hst hk0 q1 H.size) cv_X6_springBackFor q_t6_55 rfl rfl ⟨Nat.le_of_ble_eq_true rfl, Nat.le_of_ble_eq_true rfl⟩ hk0.1 (by simp) rfl rfl rfl hl.1 rfl (Nat.le_of_ble_eq_true rfl) (dc tbL_springBackFor_k 4 rfl) ⟨Nat.le_of_ble_eq_true rfl, Nat.le_of_ble_eq_true rfl⟩) hI (fun H locs hI => ?_)
    obtain ⟨h5, hf⟩ := chk_s hf
    obtain ⟨M7, e6, hf⟩ := bnd_s hf
    refine g_dast hx hb hK hap hI hk1 (okb_in h5) (dc tbL_springBackFor_k 5 rfl) e6 (fun H locs hI => ?_)
    refine lv_goto (tgt := 15) hx hb (dc tbL_springBackFor_k 6 rfl) rfl ?_
    refine lv_iconst (v := 0) hx hb (dc tbL_springBackFor_k 10 rfl) ic_0 ?_
    cases hf
    exact x_ret (g_iret hx hb hr hlk hI (dc tbL_springBackFor_k 11 rfl))
  · refine by_c (c := e4 = 0) (fun c8 => ?_) (fun c8 => ?_)
    · have hf := ite_t c8 hf
      subst c8
      refine x_callC (E := "java/lang/IllegalArgumentException") (g_runXV hx hb hml hown hts hK hap hsx hI (tX6_springBackFor l hst hk0 q1 H.size) cv_X6_springBackFor q_t6_55 rfl rfl ⟨Nat.le_of_ble_eq_true rfl, Nat.le_of_ble_eq_true rfl⟩ hk0.1 (by simp) rfl rfl rfl hl.1 rfl (Nat.le_of_ble_eq_true rfl) (dc tbL_springBackFor_k 4 rfl) ⟨Nat.le_of_ble_eq_true rfl, Nat.le_of_ble_eq_true rfl⟩) hI hown hts hsx rfl htb [] ⟨0, 8, 11, 13⟩ [] rfl (fun _ h => absurd h List.not_mem_nil) (by decide) (by decide) q_t5_101 (by decide +kernel) rfl (fun qx H locs hI => ?_)
      refine lv_astore (lv' := [(4, .ref qx), (0, .ref (ad k0)), (1, .double x1), (3, .ref (ad k1))]) hx hb (dc tbL_springBackFor_k 7 rfl) hl (by decide) rfl (fun ls hl => ?_)
      refine lv_iconst (v := 1) hx hb (dc tbL_springBackFor_k 8 rfl) ic_1 ?_
      cases hf
      exact x_ret (g_iret hx hb hr hlk hI (dc tbL_springBackFor_k 9 rfl))
    · have hf := ite_f c8 hf
      cases hf
theorem ch_L_springBackFor : Cond.static yL_springBackFor ∈ WA ∧ Cond.initialized yL_springBackFor.cls ∈ WA ∧ Cond.codeWith yL_springBackFor cL_springBackFor 5 (some .int) [(0, 8, 11, 13)] ∈ WA ∧ (yL_springBackFor.cls ≠ "java/lang/invoke/MethodHandle" ∧ yL_springBackFor.cls ≠ "java/lang/invoke/VarHandle" ∧ (parseMethodDescriptor yL_springBackFor.desc).map (fun d => d.parameters.length) = some 3) := ⟨q_t6_53, q_t1_0, q_t6_54, by decide +kernel⟩
def mL_tool (k0 : Nat) (k1 : Nat) (x1 : Int32) (x2 : Int32) (M : Mem) : Option (Mem × (Int32 ⊕ Nat)) := calt (mX6_tool k0 x1 x2 M) (fun M3 r2 => chk (okb (0 : Int32) 1) (bnd (wl M3 k1 ((0 : Int32)).toNatClampNeg (r2).toInt64) (fun M7 => some (M7, Sum.inl (0 : Int32))))) (fun M3 e4 => ite2 (e4 = 0) (some (M3, Sum.inl (1 : Int32))) (none))
set_option maxHeartbeats 4000000 in
set_option maxRecDepth 100000 in
theorem tL_tool (l : Launch) (hst : l.stackTraces = false) {G : GT} {kd : Nat → Nat × Nat} {ad : Nat → Nat} {k0 : Nat} {k1 : Nat} (hk0 : kRoot kd k0) (hk1 : kd k1 = (13, 1)) {x1 : Int32} {x2 : Int32} {M : Mem} {MO : Mem} {vo : Int32 ⊕ Nat} (hf : mL_tool k0 k1 x1 x2 M = some (MO, vo)) (n : Nat) : vx_Met l yL_tool (Cond.codeWith yL_tool cL_tool 5 (some .int) [(0, 10, 13, 13)] :: WA) (rmO 2 1 6) (Pn G kd ad n [.ref (ad k0), .int x1, .int x2, .ref (ad k1)] M) (Qx G kd ad n MO (zi vo)) (Xx G kd ad n MO (zi vo)) 1 6 (AS kd ad n) := by
  refine g_bodyXH (own := RL) (by decide) rfl ?_ (Nat.le_of_ble_eq_true rfl)
  intro p e s m args below meth c C htb hnc _ H locs ls hI hl
  obtain ⟨hx, hb, hml, hr, hown, hts, hlk, hK, hap, hsx⟩ := id C
  have hl : lv_has ls 5 [(0, .ref (ad k0)), (1, .int x1), (2, .int x2), (3, .ref (ad k1))] := hl
  unfold mL_tool at hf
  refine lv_aload_n hx hb (dc tbL_tool_k 0 rfl) rfl (lv_at hl 3 rfl) ?_
  refine lv_iconst (v := 0) hx hb (dc tbL_tool_k 1 rfl) ic_0 ?_
  refine lv_aload_n hx hb (dc tbL_tool_k 2 rfl) rfl (lv_at hl 0 rfl) ?_
  refine lv_iload_n hx hb (dc tbL_tool_k 3 rfl) rfl (lv_at hl 1 rfl) ?_
  refine lv_iload_n hx hb (dc tbL_tool_k 4 rfl) rfl (lv_at hl 2 rfl) ?_
  rcases calt_s hf with ⟨M3, r2, q1, hf⟩ | ⟨M3, e4, q1, hf⟩
  · refine x_callRi (g_runXV hx hb hml hown hts hK hap hsx hI (tX6_tool l hst hk0 q1 H.size) cv_X6_tool q_t6_64 rfl rfl ⟨Nat.le_of_ble_eq_true rfl, Nat.le_of_ble_eq_true rfl⟩ hk0.1 (by simp) rfl rfl rfl hl.1 rfl (Nat.le_of_ble_eq_true rfl) (dc tbL_tool_k 5 rfl) ⟨Nat.le_of_ble_eq_true rfl, Nat.le_of_ble_eq_true rfl⟩) hI (fun H locs hI => ?_)
    refine lv_i2l hx hb (dc tbL_tool_k 6 rfl) rfl ?_
    obtain ⟨h5, hf⟩ := chk_s hf
    obtain ⟨M7, e6, hf⟩ := bnd_s hf
    refine g_last hx hb hK hap hI hk1 (okb_in h5) (dc tbL_tool_k 7 rfl) e6 (fun H locs hI => ?_)
    refine lv_goto (tgt := 17) hx hb (dc tbL_tool_k 8 rfl) rfl ?_
    refine lv_iconst (v := 0) hx hb (dc tbL_tool_k 12 rfl) ic_0 ?_
    cases hf
    exact x_ret (g_iret hx hb hr hlk hI (dc tbL_tool_k 13 rfl))
  · refine by_c (c := e4 = 0) (fun c8 => ?_) (fun c8 => ?_)
    · have hf := ite_t c8 hf
      subst c8
      refine x_callC (E := "java/lang/IllegalArgumentException") (g_runXV hx hb hml hown hts hK hap hsx hI (tX6_tool l hst hk0 q1 H.size) cv_X6_tool q_t6_64 rfl rfl ⟨Nat.le_of_ble_eq_true rfl, Nat.le_of_ble_eq_true rfl⟩ hk0.1 (by simp) rfl rfl rfl hl.1 rfl (Nat.le_of_ble_eq_true rfl) (dc tbL_tool_k 5 rfl) ⟨Nat.le_of_ble_eq_true rfl, Nat.le_of_ble_eq_true rfl⟩) hI hown hts hsx rfl htb [] ⟨0, 10, 13, 13⟩ [] rfl (fun _ h => absurd h List.not_mem_nil) (by decide) (by decide) q_t5_101 (by decide +kernel) rfl (fun qx H locs hI => ?_)
      refine lv_astore (lv' := [(4, .ref qx), (0, .ref (ad k0)), (1, .int x1), (2, .int x2), (3, .ref (ad k1))]) hx hb (dc tbL_tool_k 9 rfl) hl (by decide) rfl (fun ls hl => ?_)
      refine lv_iconst (v := 1) hx hb (dc tbL_tool_k 10 rfl) ic_1 ?_
      cases hf
      exact x_ret (g_iret hx hb hr hlk hI (dc tbL_tool_k 11 rfl))
    · have hf := ite_f c8 hf
      cases hf
theorem ch_L_tool : Cond.static yL_tool ∈ WA ∧ Cond.initialized yL_tool.cls ∈ WA ∧ Cond.codeWith yL_tool cL_tool 5 (some .int) [(0, 10, 13, 13)] ∈ WA ∧ (yL_tool.cls ≠ "java/lang/invoke/MethodHandle" ∧ yL_tool.cls ≠ "java/lang/invoke/VarHandle" ∧ (parseMethodDescriptor yL_tool.desc).map (fun d => d.parameters.length) = some 4) := ⟨q_t6_62, q_t1_0, q_t6_63, by decide +kernel⟩
def mL_finishedCorner (k0 : Nat) (k1 : Nat) (x1 : Int32) (x2 : Int32) (M : Mem) : Option (Mem × (Int32 ⊕ Nat)) := calt (mX6_finishedCorner k0 x1 x2 M) (fun M3 r2 => chk (okb (0 : Int32) 1) (bnd (wl M3 k1 ((0 : Int32)).toNatClampNeg (r2).toInt64) (fun M7 => some (M7, Sum.inl (0 : Int32))))) (fun M3 e4 => ite2 (e4 = 1) (some (M3, Sum.inl (1 : Int32))) (ite2 (e4 = 0) (some (M3, Sum.inl (2 : Int32))) (none)))
set_option maxHeartbeats 4000000 in
set_option maxRecDepth 100000 in
theorem tL_finishedCorner (l : Launch) (hst : l.stackTraces = false) {G : GT} {kd : Nat → Nat × Nat} {ad : Nat → Nat} {k0 : Nat} {k1 : Nat} (hk0 : kRoot kd k0) (hk1 : kd k1 = (13, 1)) {x1 : Int32} {x2 : Int32} {M : Mem} {MO : Mem} {vo : Int32 ⊕ Nat} (hf : mL_finishedCorner k0 k1 x1 x2 M = some (MO, vo)) (n : Nat) : vx_Met l yL_finishedCorner (Cond.codeWith yL_finishedCorner cL_finishedCorner 5 (some .int) [(0, 10, 13, 18), (0, 10, 17, 13)] :: WA) (rmO 4 2 12) (Pn G kd ad n [.ref (ad k0), .int x1, .int x2, .ref (ad k1)] M) (Qx G kd ad n MO (zi vo)) (Xx G kd ad n MO (zi vo)) 2 12 (AS kd ad n) := by
  refine g_bodyXH (own := RL) (by decide) rfl ?_ (Nat.le_of_ble_eq_true rfl)
  intro p e s m args below meth c C htb hnc _ H locs ls hI hl
  obtain ⟨hx, hb, hml, hr, hown, hts, hlk, hK, hap, hsx⟩ := id C
  have hl : lv_has ls 5 [(0, .ref (ad k0)), (1, .int x1), (2, .int x2), (3, .ref (ad k1))] := hl
  unfold mL_finishedCorner at hf
  refine lv_aload_n hx hb (dc tbL_finishedCorner_k 0 rfl) rfl (lv_at hl 3 rfl) ?_
  refine lv_iconst (v := 0) hx hb (dc tbL_finishedCorner_k 1 rfl) ic_0 ?_
  refine lv_aload_n hx hb (dc tbL_finishedCorner_k 2 rfl) rfl (lv_at hl 0 rfl) ?_
  refine lv_iload_n hx hb (dc tbL_finishedCorner_k 3 rfl) rfl (lv_at hl 1 rfl) ?_
  refine lv_iload_n hx hb (dc tbL_finishedCorner_k 4 rfl) rfl (lv_at hl 2 rfl) ?_
  rcases calt_s hf with ⟨M3, r2, q1, hf⟩ | ⟨M3, e4, q1, hf⟩
  · refine x_callRi (g_runXV hx hb hml hown hts hK hap hsx hI (tX6_finishedCorner l hst hk0 q1 H.size) cv_X6_finishedCorner q_t6_74 rfl rfl ⟨Nat.le_of_ble_eq_true rfl, Nat.le_of_ble_eq_true rfl⟩ hk0.1 (by simp) rfl rfl rfl hl.1 rfl (Nat.le_of_ble_eq_true rfl) (dc tbL_finishedCorner_k 5 rfl) ⟨Nat.le_of_ble_eq_true rfl, Nat.le_of_ble_eq_true rfl⟩) hI (fun H locs hI => ?_)
    refine lv_i2l hx hb (dc tbL_finishedCorner_k 6 rfl) rfl ?_
    obtain ⟨h5, hf⟩ := chk_s hf
    obtain ⟨M7, e6, hf⟩ := bnd_s hf
    refine g_last hx hb hK hap hI hk1 (okb_in h5) (dc tbL_finishedCorner_k 7 rfl) e6 (fun H locs hI => ?_)
    refine lv_goto (tgt := 21) hx hb (dc tbL_finishedCorner_k 8 rfl) rfl ?_
    refine lv_iconst (v := 0) hx hb (dc tbL_finishedCorner_k 15 rfl) ic_0 ?_
    cases hf
    exact x_ret (g_iret hx hb hr hlk hI (dc tbL_finishedCorner_k 16 rfl))
  · refine by_c (c := e4 = 1) (fun c8 => ?_) (fun c8 => ?_)
    · have hf := ite_t c8 hf
      subst c8
      refine x_callC (E := "java/lang/IndexOutOfBoundsException") (g_runXV hx hb hml hown hts hK hap hsx hI (tX6_finishedCorner l hst hk0 q1 H.size) cv_X6_finishedCorner q_t6_74 rfl rfl ⟨Nat.le_of_ble_eq_true rfl, Nat.le_of_ble_eq_true rfl⟩ hk0.1 (by simp) rfl rfl rfl hl.1 rfl (Nat.le_of_ble_eq_true rfl) (dc tbL_finishedCorner_k 5 rfl) ⟨Nat.le_of_ble_eq_true rfl, Nat.le_of_ble_eq_true rfl⟩) hI hown hts hsx rfl htb [] ⟨0, 10, 13, 18⟩ [⟨0, 10, 17, 13⟩] rfl (fun _ h => absurd h List.not_mem_nil) (by decide) (by decide) q_t6_10 (by decide +kernel) rfl (fun qx H locs hI => ?_)
      refine lv_astore (lv' := [(4, .ref qx), (0, .ref (ad k0)), (1, .int x1), (2, .int x2), (3, .ref (ad k1))]) hx hb (dc tbL_finishedCorner_k 9 rfl) hl (by decide) rfl (fun ls hl => ?_)
      refine lv_iconst (v := 1) hx hb (dc tbL_finishedCorner_k 10 rfl) ic_1 ?_
      cases hf
      exact x_ret (g_iret hx hb hr hlk hI (dc tbL_finishedCorner_k 11 rfl))
    · have hf := ite_f c8 hf
      refine by_c (c := e4 = 0) (fun c9 => ?_) (fun c9 => ?_)
      · have hf := ite_t c9 hf
        subst c9
        refine x_callC (E := "java/lang/IllegalArgumentException") (g_runXV hx hb hml hown hts hK hap hsx hI (tX6_finishedCorner l hst hk0 q1 H.size) cv_X6_finishedCorner q_t6_74 rfl rfl ⟨Nat.le_of_ble_eq_true rfl, Nat.le_of_ble_eq_true rfl⟩ hk0.1 (by simp) rfl rfl rfl hl.1 rfl (Nat.le_of_ble_eq_true rfl) (dc tbL_finishedCorner_k 5 rfl) ⟨Nat.le_of_ble_eq_true rfl, Nat.le_of_ble_eq_true rfl⟩) hI hown hts hsx rfl htb [⟨0, 10, 13, 18⟩] ⟨0, 10, 17, 13⟩ [] rfl (List.forall_mem_cons.mpr ⟨⟨by decide, "java/lang/IndexOutOfBoundsException", q_t6_10, hnc.1⟩, fun _ h => absurd h List.not_mem_nil⟩) (by decide) (by decide) q_t5_101 (by decide +kernel) rfl (fun qx H locs hI => ?_)
        refine lv_astore (lv' := [(4, .ref qx), (0, .ref (ad k0)), (1, .int x1), (2, .int x2), (3, .ref (ad k1))]) hx hb (dc tbL_finishedCorner_k 12 rfl) hl (by decide) rfl (fun ls hl => ?_)
        refine lv_iconst (v := 2) hx hb (dc tbL_finishedCorner_k 13 rfl) ic_2 ?_
        cases hf
        exact x_ret (g_iret hx hb hr hlk hI (dc tbL_finishedCorner_k 14 rfl))
      · have hf := ite_f c9 hf
        cases hf
theorem ch_L_finishedCorner : Cond.static yL_finishedCorner ∈ WA ∧ Cond.initialized yL_finishedCorner.cls ∈ WA ∧ Cond.codeWith yL_finishedCorner cL_finishedCorner 5 (some .int) [(0, 10, 13, 18), (0, 10, 17, 13)] ∈ WA ∧ (yL_finishedCorner.cls ≠ "java/lang/invoke/MethodHandle" ∧ yL_finishedCorner.cls ≠ "java/lang/invoke/VarHandle" ∧ (parseMethodDescriptor yL_finishedCorner.desc).map (fun d => d.parameters.length) = some 4) := ⟨q_t6_72, q_t1_0, q_t6_73, by decide +kernel⟩
def mL_step (k0 : Nat) (k1 : Nat) (x1 : Int32) (x2 : Int32) (M : Mem) : Option (Mem × (Int32 ⊕ Nat)) := calt (mX6_step k0 x1 x2 M) (fun M3 r2 => chk (okb (0 : Int32) 1) (bnd (wl M3 k1 ((0 : Int32)).toNatClampNeg (r2).toInt64) (fun M7 => some (M7, Sum.inl (0 : Int32))))) (fun M3 e4 => ite2 (e4 = 1) (some (M3, Sum.inl (1 : Int32))) (ite2 (e4 = 0) (some (M3, Sum.inl (2 : Int32))) (none)))
set_option maxHeartbeats 4000000 in
set_option maxRecDepth 100000 in
theorem tL_step (l : Launch) (hst : l.stackTraces = false) {G : GT} {kd : Nat → Nat × Nat} {ad : Nat → Nat} {k0 : Nat} {k1 : Nat} (hk0 : kRoot kd k0) (hk1 : kd k1 = (13, 1)) {x1 : Int32} {x2 : Int32} {M : Mem} {MO : Mem} {vo : Int32 ⊕ Nat} (hf : mL_step k0 k1 x1 x2 M = some (MO, vo)) (n : Nat) : vx_Met l yL_step (Cond.codeWith yL_step cL_step 5 (some .int) [(0, 10, 13, 18), (0, 10, 17, 13)] :: WA) (rmO 2 2 12) (Pn G kd ad n [.ref (ad k0), .int x1, .int x2, .ref (ad k1)] M) (Qx G kd ad n MO (zi vo)) (Xx G kd ad n MO (zi vo)) 2 12 (AS kd ad n) := by
  refine g_bodyXH (own := RL) (by decide) rfl ?_ (Nat.le_of_ble_eq_true rfl)
  intro p e s m args below meth c C htb hnc _ H locs ls hI hl
  obtain ⟨hx, hb, hml, hr, hown, hts, hlk, hK, hap, hsx⟩ := id C
  have hl : lv_has ls 5 [(0, .ref (ad k0)), (1, .int x1), (2, .int x2), (3, .ref (ad k1))] := hl
  unfold mL_step at hf
  refine lv_aload_n hx hb (dc tbL_step_k 0 rfl) rfl (lv_at hl 3 rfl) ?_
  refine lv_iconst (v := 0) hx hb (dc tbL_step_k 1 rfl) ic_0 ?_
  refine lv_aload_n hx hb (dc tbL_step_k 2 rfl) rfl (lv_at hl 0 rfl) ?_
  refine lv_iload_n hx hb (dc tbL_step_k 3 rfl) rfl (lv_at hl 1 rfl) ?_
  refine lv_iload_n hx hb (dc tbL_step_k 4 rfl) rfl (lv_at hl 2 rfl) ?_
  rcases calt_s hf with ⟨M3, r2, q1, hf⟩ | ⟨M3, e4, q1, hf⟩
  · refine x_callRi (g_runXV hx hb hml hown hts hK hap hsx hI (tX6_step l hst hk0 q1 H.size) cv_X6_step q_t6_85 rfl rfl ⟨Nat.le_of_ble_eq_true rfl, Nat.le_of_ble_eq_true rfl⟩ hk0.1 (by simp) rfl rfl rfl hl.1 rfl (Nat.le_of_ble_eq_true rfl) (dc tbL_step_k 5 rfl) ⟨Nat.le_of_ble_eq_true rfl, Nat.le_of_ble_eq_true rfl⟩) hI (fun H locs hI => ?_)
    refine lv_i2l hx hb (dc tbL_step_k 6 rfl) rfl ?_
    obtain ⟨h5, hf⟩ := chk_s hf
    obtain ⟨M7, e6, hf⟩ := bnd_s hf
    refine g_last hx hb hK hap hI hk1 (okb_in h5) (dc tbL_step_k 7 rfl) e6 (fun H locs hI => ?_)
    refine lv_goto (tgt := 21) hx hb (dc tbL_step_k 8 rfl) rfl ?_
    refine lv_iconst (v := 0) hx hb (dc tbL_step_k 15 rfl) ic_0 ?_
    cases hf
    exact x_ret (g_iret hx hb hr hlk hI (dc tbL_step_k 16 rfl))
  · refine by_c (c := e4 = 1) (fun c8 => ?_) (fun c8 => ?_)
    · have hf := ite_t c8 hf
      subst c8
      refine x_callC (E := "java/lang/IndexOutOfBoundsException") (g_runXV hx hb hml hown hts hK hap hsx hI (tX6_step l hst hk0 q1 H.size) cv_X6_step q_t6_85 rfl rfl ⟨Nat.le_of_ble_eq_true rfl, Nat.le_of_ble_eq_true rfl⟩ hk0.1 (by simp) rfl rfl rfl hl.1 rfl (Nat.le_of_ble_eq_true rfl) (dc tbL_step_k 5 rfl) ⟨Nat.le_of_ble_eq_true rfl, Nat.le_of_ble_eq_true rfl⟩) hI hown hts hsx rfl htb [] ⟨0, 10, 13, 18⟩ [⟨0, 10, 17, 13⟩] rfl (fun _ h => absurd h List.not_mem_nil) (by decide) (by decide) q_t6_10 (by decide +kernel) rfl (fun qx H locs hI => ?_)
      refine lv_astore (lv' := [(4, .ref qx), (0, .ref (ad k0)), (1, .int x1), (2, .int x2), (3, .ref (ad k1))]) hx hb (dc tbL_step_k 9 rfl) hl (by decide) rfl (fun ls hl => ?_)
      refine lv_iconst (v := 1) hx hb (dc tbL_step_k 10 rfl) ic_1 ?_
      cases hf
      exact x_ret (g_iret hx hb hr hlk hI (dc tbL_step_k 11 rfl))
    · have hf := ite_f c8 hf
      refine by_c (c := e4 = 0) (fun c9 => ?_) (fun c9 => ?_)
      · have hf := ite_t c9 hf
        subst c9
        refine x_callC (E := "java/lang/IllegalArgumentException") (g_runXV hx hb hml hown hts hK hap hsx hI (tX6_step l hst hk0 q1 H.size) cv_X6_step q_t6_85 rfl rfl ⟨Nat.le_of_ble_eq_true rfl, Nat.le_of_ble_eq_true rfl⟩ hk0.1 (by simp) rfl rfl rfl hl.1 rfl (Nat.le_of_ble_eq_true rfl) (dc tbL_step_k 5 rfl) ⟨Nat.le_of_ble_eq_true rfl, Nat.le_of_ble_eq_true rfl⟩) hI hown hts hsx rfl htb [⟨0, 10, 13, 18⟩] ⟨0, 10, 17, 13⟩ [] rfl (List.forall_mem_cons.mpr ⟨⟨by decide, "java/lang/IndexOutOfBoundsException", q_t6_10, hnc.1⟩, fun _ h => absurd h List.not_mem_nil⟩) (by decide) (by decide) q_t5_101 (by decide +kernel) rfl (fun qx H locs hI => ?_)
        refine lv_astore (lv' := [(4, .ref qx), (0, .ref (ad k0)), (1, .int x1), (2, .int x2), (3, .ref (ad k1))]) hx hb (dc tbL_step_k 12 rfl) hl (by decide) rfl (fun ls hl => ?_)
        refine lv_iconst (v := 2) hx hb (dc tbL_step_k 13 rfl) ic_2 ?_
        cases hf
        exact x_ret (g_iret hx hb hr hlk hI (dc tbL_step_k 14 rfl))
      · have hf := ite_f c9 hf
        cases hf
theorem ch_L_step : Cond.static yL_step ∈ WA ∧ Cond.initialized yL_step.cls ∈ WA ∧ Cond.codeWith yL_step cL_step 5 (some .int) [(0, 10, 13, 18), (0, 10, 17, 13)] ∈ WA ∧ (yL_step.cls ≠ "java/lang/invoke/MethodHandle" ∧ yL_step.cls ≠ "java/lang/invoke/VarHandle" ∧ (parseMethodDescriptor yL_step.desc).map (fun d => d.parameters.length) = some 4) := ⟨q_t6_83, q_t1_0, q_t6_84, by decide +kernel⟩
def mL_reason (k0 : Nat) (k1 : Nat) (x1 : Int32) (x2 : Int32) (M : Mem) : Option (Mem × (Int32 ⊕ Nat)) := calt (mX6_reason k0 x1 x2 M) (fun M3 r2 => chk (okb (0 : Int32) 1) (bnd (wl M3 k1 ((0 : Int32)).toNatClampNeg (r2).toInt64) (fun M7 => some (M7, Sum.inl (0 : Int32))))) (fun M3 e4 => ite2 (e4 = 1) (some (M3, Sum.inl (1 : Int32))) (ite2 (e4 = 0) (some (M3, Sum.inl (2 : Int32))) (none)))
set_option maxHeartbeats 4000000 in
set_option maxRecDepth 100000 in
theorem tL_reason (l : Launch) (hst : l.stackTraces = false) {G : GT} {kd : Nat → Nat × Nat} {ad : Nat → Nat} {k0 : Nat} {k1 : Nat} (hk0 : kRoot kd k0) (hk1 : kd k1 = (13, 1)) {x1 : Int32} {x2 : Int32} {M : Mem} {MO : Mem} {vo : Int32 ⊕ Nat} (hf : mL_reason k0 k1 x1 x2 M = some (MO, vo)) (n : Nat) : vx_Met l yL_reason (Cond.codeWith yL_reason cL_reason 5 (some .int) [(0, 10, 13, 18), (0, 10, 17, 13)] :: WA) (rmO 5 2 12) (Pn G kd ad n [.ref (ad k0), .int x1, .int x2, .ref (ad k1)] M) (Qx G kd ad n MO (zi vo)) (Xx G kd ad n MO (zi vo)) 2 12 (AS kd ad n) := by
  refine g_bodyXH (own := RL) (by decide) rfl ?_ (Nat.le_of_ble_eq_true rfl)
  intro p e s m args below meth c C htb hnc _ H locs ls hI hl
  obtain ⟨hx, hb, hml, hr, hown, hts, hlk, hK, hap, hsx⟩ := id C
  have hl : lv_has ls 5 [(0, .ref (ad k0)), (1, .int x1), (2, .int x2), (3, .ref (ad k1))] := hl
  unfold mL_reason at hf
  refine lv_aload_n hx hb (dc tbL_reason_k 0 rfl) rfl (lv_at hl 3 rfl) ?_
  refine lv_iconst (v := 0) hx hb (dc tbL_reason_k 1 rfl) ic_0 ?_
  refine lv_aload_n hx hb (dc tbL_reason_k 2 rfl) rfl (lv_at hl 0 rfl) ?_
  refine lv_iload_n hx hb (dc tbL_reason_k 3 rfl) rfl (lv_at hl 1 rfl) ?_
  refine lv_iload_n hx hb (dc tbL_reason_k 4 rfl) rfl (lv_at hl 2 rfl) ?_
  rcases calt_s hf with ⟨M3, r2, q1, hf⟩ | ⟨M3, e4, q1, hf⟩
  · refine x_callRi (g_runXV hx hb hml hown hts hK hap hsx hI (tX6_reason l hst hk0 q1 H.size) cv_X6_reason q_t6_93 rfl rfl ⟨Nat.le_of_ble_eq_true rfl, Nat.le_of_ble_eq_true rfl⟩ hk0.1 (by simp) rfl rfl rfl hl.1 rfl (Nat.le_of_ble_eq_true rfl) (dc tbL_reason_k 5 rfl) ⟨Nat.le_of_ble_eq_true rfl, Nat.le_of_ble_eq_true rfl⟩) hI (fun H locs hI => ?_)
    refine lv_i2l hx hb (dc tbL_reason_k 6 rfl) rfl ?_
    obtain ⟨h5, hf⟩ := chk_s hf
    obtain ⟨M7, e6, hf⟩ := bnd_s hf
    refine g_last hx hb hK hap hI hk1 (okb_in h5) (dc tbL_reason_k 7 rfl) e6 (fun H locs hI => ?_)
    refine lv_goto (tgt := 21) hx hb (dc tbL_reason_k 8 rfl) rfl ?_
    refine lv_iconst (v := 0) hx hb (dc tbL_reason_k 15 rfl) ic_0 ?_
    cases hf
    exact x_ret (g_iret hx hb hr hlk hI (dc tbL_reason_k 16 rfl))
  · refine by_c (c := e4 = 1) (fun c8 => ?_) (fun c8 => ?_)
    · have hf := ite_t c8 hf
      subst c8
      refine x_callC (E := "java/lang/IndexOutOfBoundsException") (g_runXV hx hb hml hown hts hK hap hsx hI (tX6_reason l hst hk0 q1 H.size) cv_X6_reason q_t6_93 rfl rfl ⟨Nat.le_of_ble_eq_true rfl, Nat.le_of_ble_eq_true rfl⟩ hk0.1 (by simp) rfl rfl rfl hl.1 rfl (Nat.le_of_ble_eq_true rfl) (dc tbL_reason_k 5 rfl) ⟨Nat.le_of_ble_eq_true rfl, Nat.le_of_ble_eq_true rfl⟩) hI hown hts hsx rfl htb [] ⟨0, 10, 13, 18⟩ [⟨0, 10, 17, 13⟩] rfl (fun _ h => absurd h List.not_mem_nil) (by decide) (by decide) q_t6_10 (by decide +kernel) rfl (fun qx H locs hI => ?_)
      refine lv_astore (lv' := [(4, .ref qx), (0, .ref (ad k0)), (1, .int x1), (2, .int x2), (3, .ref (ad k1))]) hx hb (dc tbL_reason_k 9 rfl) hl (by decide) rfl (fun ls hl => ?_)
      refine lv_iconst (v := 1) hx hb (dc tbL_reason_k 10 rfl) ic_1 ?_
      cases hf
      exact x_ret (g_iret hx hb hr hlk hI (dc tbL_reason_k 11 rfl))
    · have hf := ite_f c8 hf
      refine by_c (c := e4 = 0) (fun c9 => ?_) (fun c9 => ?_)
      · have hf := ite_t c9 hf
        subst c9
        refine x_callC (E := "java/lang/IllegalArgumentException") (g_runXV hx hb hml hown hts hK hap hsx hI (tX6_reason l hst hk0 q1 H.size) cv_X6_reason q_t6_93 rfl rfl ⟨Nat.le_of_ble_eq_true rfl, Nat.le_of_ble_eq_true rfl⟩ hk0.1 (by simp) rfl rfl rfl hl.1 rfl (Nat.le_of_ble_eq_true rfl) (dc tbL_reason_k 5 rfl) ⟨Nat.le_of_ble_eq_true rfl, Nat.le_of_ble_eq_true rfl⟩) hI hown hts hsx rfl htb [⟨0, 10, 13, 18⟩] ⟨0, 10, 17, 13⟩ [] rfl (List.forall_mem_cons.mpr ⟨⟨by decide, "java/lang/IndexOutOfBoundsException", q_t6_10, hnc.1⟩, fun _ h => absurd h List.not_mem_nil⟩) (by decide) (by decide) q_t5_101 (by decide +kernel) rfl (fun qx H locs hI => ?_)
        refine lv_astore (lv' := [(4, .ref qx), (0, .ref (ad k0)), (1, .int x1), (2, .int x2), (3, .ref (ad k1))]) hx hb (dc tbL_reason_k 12 rfl) hl (by decide) rfl (fun ls hl => ?_)
        refine lv_iconst (v := 2) hx hb (dc tbL_reason_k 13 rfl) ic_2 ?_
        cases hf
        exact x_ret (g_iret hx hb hr hlk hI (dc tbL_reason_k 14 rfl))
      · have hf := ite_f c9 hf
        cases hf
theorem ch_L_reason : Cond.static yL_reason ∈ WA ∧ Cond.initialized yL_reason.cls ∈ WA ∧ Cond.codeWith yL_reason cL_reason 5 (some .int) [(0, 10, 13, 18), (0, 10, 17, 13)] ∈ WA ∧ (yL_reason.cls ≠ "java/lang/invoke/MethodHandle" ∧ yL_reason.cls ≠ "java/lang/invoke/VarHandle" ∧ (parseMethodDescriptor yL_reason.desc).map (fun d => d.parameters.length) = some 4) := ⟨q_t6_91, q_t1_0, q_t6_92, by decide +kernel⟩
def mL_gauge (k0 : Nat) (k1 : Nat) (x1 : Int32) (x2 : Int32) (M : Mem) : Option (Mem × (Int32 ⊕ Nat)) := calt (mX6_gauge k0 x1 x2 M) (fun M3 r2 => chk (okb (0 : Int32) 1) (bnd (wl M3 k1 ((0 : Int32)).toNatClampNeg (r2).toInt64) (fun M7 => some (M7, Sum.inl (0 : Int32))))) (fun M3 e4 => ite2 (e4 = 1) (some (M3, Sum.inl (1 : Int32))) (ite2 (e4 = 0) (some (M3, Sum.inl (2 : Int32))) (none)))
set_option maxHeartbeats 4000000 in
set_option maxRecDepth 100000 in
theorem tL_gauge (l : Launch) (hst : l.stackTraces = false) {G : GT} {kd : Nat → Nat × Nat} {ad : Nat → Nat} {k0 : Nat} {k1 : Nat} (hk0 : kRoot kd k0) (hk1 : kd k1 = (13, 1)) {x1 : Int32} {x2 : Int32} {M : Mem} {MO : Mem} {vo : Int32 ⊕ Nat} (hf : mL_gauge k0 k1 x1 x2 M = some (MO, vo)) (n : Nat) : vx_Met l yL_gauge (Cond.codeWith yL_gauge cL_gauge 5 (some .int) [(0, 10, 13, 18), (0, 10, 17, 13)] :: WA) (rmO 4 2 12) (Pn G kd ad n [.ref (ad k0), .int x1, .int x2, .ref (ad k1)] M) (Qx G kd ad n MO (zi vo)) (Xx G kd ad n MO (zi vo)) 2 12 (AS kd ad n) := by
  refine g_bodyXH (own := RL) (by decide) rfl ?_ (Nat.le_of_ble_eq_true rfl)
  intro p e s m args below meth c C htb hnc _ H locs ls hI hl
  obtain ⟨hx, hb, hml, hr, hown, hts, hlk, hK, hap, hsx⟩ := id C
  have hl : lv_has ls 5 [(0, .ref (ad k0)), (1, .int x1), (2, .int x2), (3, .ref (ad k1))] := hl
  unfold mL_gauge at hf
  refine lv_aload_n hx hb (dc tbL_gauge_k 0 rfl) rfl (lv_at hl 3 rfl) ?_
  refine lv_iconst (v := 0) hx hb (dc tbL_gauge_k 1 rfl) ic_0 ?_
  refine lv_aload_n hx hb (dc tbL_gauge_k 2 rfl) rfl (lv_at hl 0 rfl) ?_
  refine lv_iload_n hx hb (dc tbL_gauge_k 3 rfl) rfl (lv_at hl 1 rfl) ?_
  refine lv_iload_n hx hb (dc tbL_gauge_k 4 rfl) rfl (lv_at hl 2 rfl) ?_
  rcases calt_s hf with ⟨M3, r2, q1, hf⟩ | ⟨M3, e4, q1, hf⟩
  · refine x_callRi (g_runXV hx hb hml hown hts hK hap hsx hI (tX6_gauge l hst hk0 q1 H.size) cv_X6_gauge q_t6_109 rfl rfl ⟨Nat.le_of_ble_eq_true rfl, Nat.le_of_ble_eq_true rfl⟩ hk0.1 (by simp) rfl rfl rfl hl.1 rfl (Nat.le_of_ble_eq_true rfl) (dc tbL_gauge_k 5 rfl) ⟨Nat.le_of_ble_eq_true rfl, Nat.le_of_ble_eq_true rfl⟩) hI (fun H locs hI => ?_)
    refine lv_i2l hx hb (dc tbL_gauge_k 6 rfl) rfl ?_
    obtain ⟨h5, hf⟩ := chk_s hf
    obtain ⟨M7, e6, hf⟩ := bnd_s hf
    refine g_last hx hb hK hap hI hk1 (okb_in h5) (dc tbL_gauge_k 7 rfl) e6 (fun H locs hI => ?_)
    refine lv_goto (tgt := 21) hx hb (dc tbL_gauge_k 8 rfl) rfl ?_
    refine lv_iconst (v := 0) hx hb (dc tbL_gauge_k 15 rfl) ic_0 ?_
    cases hf
    exact x_ret (g_iret hx hb hr hlk hI (dc tbL_gauge_k 16 rfl))
  · refine by_c (c := e4 = 1) (fun c8 => ?_) (fun c8 => ?_)
    · have hf := ite_t c8 hf
      subst c8
      refine x_callC (E := "java/lang/IndexOutOfBoundsException") (g_runXV hx hb hml hown hts hK hap hsx hI (tX6_gauge l hst hk0 q1 H.size) cv_X6_gauge q_t6_109 rfl rfl ⟨Nat.le_of_ble_eq_true rfl, Nat.le_of_ble_eq_true rfl⟩ hk0.1 (by simp) rfl rfl rfl hl.1 rfl (Nat.le_of_ble_eq_true rfl) (dc tbL_gauge_k 5 rfl) ⟨Nat.le_of_ble_eq_true rfl, Nat.le_of_ble_eq_true rfl⟩) hI hown hts hsx rfl htb [] ⟨0, 10, 13, 18⟩ [⟨0, 10, 17, 13⟩] rfl (fun _ h => absurd h List.not_mem_nil) (by decide) (by decide) q_t6_10 (by decide +kernel) rfl (fun qx H locs hI => ?_)
      refine lv_astore (lv' := [(4, .ref qx), (0, .ref (ad k0)), (1, .int x1), (2, .int x2), (3, .ref (ad k1))]) hx hb (dc tbL_gauge_k 9 rfl) hl (by decide) rfl (fun ls hl => ?_)
      refine lv_iconst (v := 1) hx hb (dc tbL_gauge_k 10 rfl) ic_1 ?_
      cases hf
      exact x_ret (g_iret hx hb hr hlk hI (dc tbL_gauge_k 11 rfl))
    · have hf := ite_f c8 hf
      refine by_c (c := e4 = 0) (fun c9 => ?_) (fun c9 => ?_)
      · have hf := ite_t c9 hf
        subst c9
        refine x_callC (E := "java/lang/IllegalArgumentException") (g_runXV hx hb hml hown hts hK hap hsx hI (tX6_gauge l hst hk0 q1 H.size) cv_X6_gauge q_t6_109 rfl rfl ⟨Nat.le_of_ble_eq_true rfl, Nat.le_of_ble_eq_true rfl⟩ hk0.1 (by simp) rfl rfl rfl hl.1 rfl (Nat.le_of_ble_eq_true rfl) (dc tbL_gauge_k 5 rfl) ⟨Nat.le_of_ble_eq_true rfl, Nat.le_of_ble_eq_true rfl⟩) hI hown hts hsx rfl htb [⟨0, 10, 13, 18⟩] ⟨0, 10, 17, 13⟩ [] rfl (List.forall_mem_cons.mpr ⟨⟨by decide, "java/lang/IndexOutOfBoundsException", q_t6_10, hnc.1⟩, fun _ h => absurd h List.not_mem_nil⟩) (by decide) (by decide) q_t5_101 (by decide +kernel) rfl (fun qx H locs hI => ?_)
        refine lv_astore (lv' := [(4, .ref qx), (0, .ref (ad k0)), (1, .int x1), (2, .int x2), (3, .ref (ad k1))]) hx hb (dc tbL_gauge_k 12 rfl) hl (by decide) rfl (fun ls hl => ?_)
        refine lv_iconst (v := 2) hx hb (dc tbL_gauge_k 13 rfl) ic_2 ?_
        cases hf
        exact x_ret (g_iret hx hb hr hlk hI (dc tbL_gauge_k 14 rfl))
      · have hf := ite_f c9 hf
        cases hf
theorem ch_L_gauge : Cond.static yL_gauge ∈ WA ∧ Cond.initialized yL_gauge.cls ∈ WA ∧ Cond.codeWith yL_gauge cL_gauge 5 (some .int) [(0, 10, 13, 18), (0, 10, 17, 13)] ∈ WA ∧ (yL_gauge.cls ≠ "java/lang/invoke/MethodHandle" ∧ yL_gauge.cls ≠ "java/lang/invoke/VarHandle" ∧ (parseMethodDescriptor yL_gauge.desc).map (fun d => d.parameters.length) = some 4) := ⟨q_t6_107, q_t1_0, q_t6_108, by decide +kernel⟩
def mL_corner (k0 : Nat) (k1 : Nat) (x1 : Int32) (x2 : Int32) (x3 : Int32) (x4 : Int32) (M : Mem) : Option (Mem × (Int32 ⊕ Nat)) := calt (mX6_corner k0 x1 x2 x3 x4 M) (fun M3 r2 => chk (okb (0 : Int32) 1) (bnd (wl M3 k1 ((0 : Int32)).toNatClampNeg (r2).toInt64) (fun M7 => some (M7, Sum.inl (0 : Int32))))) (fun M3 e4 => ite2 (e4 = 1) (some (M3, Sum.inl (1 : Int32))) (ite2 (e4 = 0) (some (M3, Sum.inl (2 : Int32))) (none)))
set_option maxHeartbeats 4000000 in
set_option maxRecDepth 100000 in
theorem tL_corner (l : Launch) (hst : l.stackTraces = false) {G : GT} {kd : Nat → Nat × Nat} {ad : Nat → Nat} {k0 : Nat} {k1 : Nat} (hk0 : kRoot kd k0) (hk1 : kd k1 = (13, 1)) {x1 : Int32} {x2 : Int32} {x3 : Int32} {x4 : Int32} {M : Mem} {MO : Mem} {vo : Int32 ⊕ Nat} (hf : mL_corner k0 k1 x1 x2 x3 x4 M = some (MO, vo)) (n : Nat) : vx_Met l yL_corner (Cond.codeWith yL_corner cL_corner 7 (some .int) [(0, 14, 17, 18), (0, 14, 21, 13)] :: WA) (rmO 3 4 24) (Pn G kd ad n [.ref (ad k0), .int x1, .int x2, .int x3, .int x4, .ref (ad k1)] M) (Qx G kd ad n MO (zi vo)) (Xx G kd ad n MO (zi vo)) 4 24 (AS kd ad n) := by
  refine g_bodyXH (own := RL) (by decide) rfl ?_ (Nat.le_of_ble_eq_true rfl)
  intro p e s m args below meth c C htb hnc _ H locs ls hI hl
  obtain ⟨hx, hb, hml, hr, hown, hts, hlk, hK, hap, hsx⟩ := id C
  have hl : lv_has ls 7 [(0, .ref (ad k0)), (1, .int x1), (2, .int x2), (3, .int x3), (4, .int x4), (5, .ref (ad k1))] := hl
  unfold mL_corner at hf
  refine lv_aload hx hb (dc tbL_corner_k 0 rfl) (lv_at hl 5 rfl) ?_
  refine lv_iconst (v := 0) hx hb (dc tbL_corner_k 1 rfl) ic_0 ?_
  refine lv_aload_n hx hb (dc tbL_corner_k 2 rfl) rfl (lv_at hl 0 rfl) ?_
  refine lv_iload_n hx hb (dc tbL_corner_k 3 rfl) rfl (lv_at hl 1 rfl) ?_
  refine lv_iload_n hx hb (dc tbL_corner_k 4 rfl) rfl (lv_at hl 2 rfl) ?_
  refine lv_iload_n hx hb (dc tbL_corner_k 5 rfl) rfl (lv_at hl 3 rfl) ?_
  refine lv_iload hx hb (dc tbL_corner_k 6 rfl) (lv_at hl 4 rfl) ?_
  rcases calt_s hf with ⟨M3, r2, q1, hf⟩ | ⟨M3, e4, q1, hf⟩
  · refine x_callRi (g_runXV hx hb hml hown hts hK hap hsx hI (tX6_corner l hst hk0 q1 H.size) cv_X6_corner q_t6_122 rfl rfl ⟨Nat.le_of_ble_eq_true rfl, Nat.le_of_ble_eq_true rfl⟩ hk0.1 (by simp) rfl rfl rfl hl.1 rfl (Nat.le_of_ble_eq_true rfl) (dc tbL_corner_k 7 rfl) ⟨Nat.le_of_ble_eq_true rfl, Nat.le_of_ble_eq_true rfl⟩) hI (fun H locs hI => ?_)
    refine lv_i2l hx hb (dc tbL_corner_k 8 rfl) rfl ?_
    obtain ⟨h5, hf⟩ := chk_s hf
    obtain ⟨M7, e6, hf⟩ := bnd_s hf
    refine g_last hx hb hK hap hI hk1 (okb_in h5) (dc tbL_corner_k 9 rfl) e6 (fun H locs hI => ?_)
    refine lv_goto (tgt := 25) hx hb (dc tbL_corner_k 10 rfl) rfl ?_
    refine lv_iconst (v := 0) hx hb (dc tbL_corner_k 17 rfl) ic_0 ?_
    cases hf
    exact x_ret (g_iret hx hb hr hlk hI (dc tbL_corner_k 18 rfl))
  · refine by_c (c := e4 = 1) (fun c8 => ?_) (fun c8 => ?_)
    · have hf := ite_t c8 hf
      subst c8
      refine x_callC (E := "java/lang/IndexOutOfBoundsException") (g_runXV hx hb hml hown hts hK hap hsx hI (tX6_corner l hst hk0 q1 H.size) cv_X6_corner q_t6_122 rfl rfl ⟨Nat.le_of_ble_eq_true rfl, Nat.le_of_ble_eq_true rfl⟩ hk0.1 (by simp) rfl rfl rfl hl.1 rfl (Nat.le_of_ble_eq_true rfl) (dc tbL_corner_k 7 rfl) ⟨Nat.le_of_ble_eq_true rfl, Nat.le_of_ble_eq_true rfl⟩) hI hown hts hsx rfl htb [] ⟨0, 14, 17, 18⟩ [⟨0, 14, 21, 13⟩] rfl (fun _ h => absurd h List.not_mem_nil) (by decide) (by decide) q_t6_10 (by decide +kernel) rfl (fun qx H locs hI => ?_)
      refine lv_astore (lv' := [(6, .ref qx), (0, .ref (ad k0)), (1, .int x1), (2, .int x2), (3, .int x3), (4, .int x4), (5, .ref (ad k1))]) hx hb (dc tbL_corner_k 11 rfl) hl (by decide) rfl (fun ls hl => ?_)
      refine lv_iconst (v := 1) hx hb (dc tbL_corner_k 12 rfl) ic_1 ?_
      cases hf
      exact x_ret (g_iret hx hb hr hlk hI (dc tbL_corner_k 13 rfl))
    · have hf := ite_f c8 hf
      refine by_c (c := e4 = 0) (fun c9 => ?_) (fun c9 => ?_)
      · have hf := ite_t c9 hf
        subst c9
        refine x_callC (E := "java/lang/IllegalArgumentException") (g_runXV hx hb hml hown hts hK hap hsx hI (tX6_corner l hst hk0 q1 H.size) cv_X6_corner q_t6_122 rfl rfl ⟨Nat.le_of_ble_eq_true rfl, Nat.le_of_ble_eq_true rfl⟩ hk0.1 (by simp) rfl rfl rfl hl.1 rfl (Nat.le_of_ble_eq_true rfl) (dc tbL_corner_k 7 rfl) ⟨Nat.le_of_ble_eq_true rfl, Nat.le_of_ble_eq_true rfl⟩) hI hown hts hsx rfl htb [⟨0, 14, 17, 18⟩] ⟨0, 14, 21, 13⟩ [] rfl (List.forall_mem_cons.mpr ⟨⟨by decide, "java/lang/IndexOutOfBoundsException", q_t6_10, hnc.1⟩, fun _ h => absurd h List.not_mem_nil⟩) (by decide) (by decide) q_t5_101 (by decide +kernel) rfl (fun qx H locs hI => ?_)
        refine lv_astore (lv' := [(6, .ref qx), (0, .ref (ad k0)), (1, .int x1), (2, .int x2), (3, .int x3), (4, .int x4), (5, .ref (ad k1))]) hx hb (dc tbL_corner_k 14 rfl) hl (by decide) rfl (fun ls hl => ?_)
        refine lv_iconst (v := 2) hx hb (dc tbL_corner_k 15 rfl) ic_2 ?_
        cases hf
        exact x_ret (g_iret hx hb hr hlk hI (dc tbL_corner_k 16 rfl))
      · have hf := ite_f c9 hf
        cases hf
theorem ch_L_corner : Cond.static yL_corner ∈ WA ∧ Cond.initialized yL_corner.cls ∈ WA ∧ Cond.codeWith yL_corner cL_corner 7 (some .int) [(0, 14, 17, 18), (0, 14, 21, 13)] ∈ WA ∧ (yL_corner.cls ≠ "java/lang/invoke/MethodHandle" ∧ yL_corner.cls ≠ "java/lang/invoke/VarHandle" ∧ (parseMethodDescriptor yL_corner.desc).map (fun d => d.parameters.length) = some 6) := ⟨q_t6_120, q_t1_0, q_t6_121, by decide +kernel⟩
def mL_top (k0 : Nat) (k1 : Nat) (x1 : Int32) (x2 : Int32) (M : Mem) : Option (Mem × (Int32 ⊕ Nat)) := calt (mX6_top k0 x1 x2 M) (fun M3 r2 => chk (okb (0 : Int32) 1) (bnd (wl M3 k1 ((0 : Int32)).toNatClampNeg (r2).toInt64) (fun M7 => some (M7, Sum.inl (0 : Int32))))) (fun M3 e4 => ite2 (e4 = 1) (some (M3, Sum.inl (1 : Int32))) (ite2 (e4 = 0) (some (M3, Sum.inl (2 : Int32))) (none)))
set_option maxHeartbeats 4000000 in
set_option maxRecDepth 100000 in
theorem tL_top (l : Launch) (hst : l.stackTraces = false) {G : GT} {kd : Nat → Nat × Nat} {ad : Nat → Nat} {k0 : Nat} {k1 : Nat} (hk0 : kRoot kd k0) (hk1 : kd k1 = (13, 1)) {x1 : Int32} {x2 : Int32} {M : Mem} {MO : Mem} {vo : Int32 ⊕ Nat} (hf : mL_top k0 k1 x1 x2 M = some (MO, vo)) (n : Nat) : vx_Met l yL_top (Cond.codeWith yL_top cL_top 5 (some .int) [(0, 10, 13, 18), (0, 10, 17, 13)] :: WA) (rmO 4 2 12) (Pn G kd ad n [.ref (ad k0), .int x1, .int x2, .ref (ad k1)] M) (Qx G kd ad n MO (zi vo)) (Xx G kd ad n MO (zi vo)) 2 12 (AS kd ad n) := by
  refine g_bodyXH (own := RL) (by decide) rfl ?_ (Nat.le_of_ble_eq_true rfl)
  intro p e s m args below meth c C htb hnc _ H locs ls hI hl
  obtain ⟨hx, hb, hml, hr, hown, hts, hlk, hK, hap, hsx⟩ := id C
  have hl : lv_has ls 5 [(0, .ref (ad k0)), (1, .int x1), (2, .int x2), (3, .ref (ad k1))] := hl
  unfold mL_top at hf
  refine lv_aload_n hx hb (dc tbL_top_k 0 rfl) rfl (lv_at hl 3 rfl) ?_
  refine lv_iconst (v := 0) hx hb (dc tbL_top_k 1 rfl) ic_0 ?_
  refine lv_aload_n hx hb (dc tbL_top_k 2 rfl) rfl (lv_at hl 0 rfl) ?_
  refine lv_iload_n hx hb (dc tbL_top_k 3 rfl) rfl (lv_at hl 1 rfl) ?_
  refine lv_iload_n hx hb (dc tbL_top_k 4 rfl) rfl (lv_at hl 2 rfl) ?_
  rcases calt_s hf with ⟨M3, r2, q1, hf⟩ | ⟨M3, e4, q1, hf⟩
  · refine x_callRi (g_runXV hx hb hml hown hts hK hap hsx hI (tX6_top l hst hk0 q1 H.size) cv_X6_top q_t6_129 rfl rfl ⟨Nat.le_of_ble_eq_true rfl, Nat.le_of_ble_eq_true rfl⟩ hk0.1 (by simp) rfl rfl rfl hl.1 rfl (Nat.le_of_ble_eq_true rfl) (dc tbL_top_k 5 rfl) ⟨Nat.le_of_ble_eq_true rfl, Nat.le_of_ble_eq_true rfl⟩) hI (fun H locs hI => ?_)
    refine lv_i2l hx hb (dc tbL_top_k 6 rfl) rfl ?_
    obtain ⟨h5, hf⟩ := chk_s hf
    obtain ⟨M7, e6, hf⟩ := bnd_s hf
    refine g_last hx hb hK hap hI hk1 (okb_in h5) (dc tbL_top_k 7 rfl) e6 (fun H locs hI => ?_)
    refine lv_goto (tgt := 21) hx hb (dc tbL_top_k 8 rfl) rfl ?_
    refine lv_iconst (v := 0) hx hb (dc tbL_top_k 15 rfl) ic_0 ?_
    cases hf
    exact x_ret (g_iret hx hb hr hlk hI (dc tbL_top_k 16 rfl))
  · refine by_c (c := e4 = 1) (fun c8 => ?_) (fun c8 => ?_)
    · have hf := ite_t c8 hf
      subst c8
      refine x_callC (E := "java/lang/IndexOutOfBoundsException") (g_runXV hx hb hml hown hts hK hap hsx hI (tX6_top l hst hk0 q1 H.size) cv_X6_top q_t6_129 rfl rfl ⟨Nat.le_of_ble_eq_true rfl, Nat.le_of_ble_eq_true rfl⟩ hk0.1 (by simp) rfl rfl rfl hl.1 rfl (Nat.le_of_ble_eq_true rfl) (dc tbL_top_k 5 rfl) ⟨Nat.le_of_ble_eq_true rfl, Nat.le_of_ble_eq_true rfl⟩) hI hown hts hsx rfl htb [] ⟨0, 10, 13, 18⟩ [⟨0, 10, 17, 13⟩] rfl (fun _ h => absurd h List.not_mem_nil) (by decide) (by decide) q_t6_10 (by decide +kernel) rfl (fun qx H locs hI => ?_)
      refine lv_astore (lv' := [(4, .ref qx), (0, .ref (ad k0)), (1, .int x1), (2, .int x2), (3, .ref (ad k1))]) hx hb (dc tbL_top_k 9 rfl) hl (by decide) rfl (fun ls hl => ?_)
      refine lv_iconst (v := 1) hx hb (dc tbL_top_k 10 rfl) ic_1 ?_
      cases hf
      exact x_ret (g_iret hx hb hr hlk hI (dc tbL_top_k 11 rfl))
    · have hf := ite_f c8 hf
      refine by_c (c := e4 = 0) (fun c9 => ?_) (fun c9 => ?_)
      · have hf := ite_t c9 hf
        subst c9
        refine x_callC (E := "java/lang/IllegalArgumentException") (g_runXV hx hb hml hown hts hK hap hsx hI (tX6_top l hst hk0 q1 H.size) cv_X6_top q_t6_129 rfl rfl ⟨Nat.le_of_ble_eq_true rfl, Nat.le_of_ble_eq_true rfl⟩ hk0.1 (by simp) rfl rfl rfl hl.1 rfl (Nat.le_of_ble_eq_true rfl) (dc tbL_top_k 5 rfl) ⟨Nat.le_of_ble_eq_true rfl, Nat.le_of_ble_eq_true rfl⟩) hI hown hts hsx rfl htb [⟨0, 10, 13, 18⟩] ⟨0, 10, 17, 13⟩ [] rfl (List.forall_mem_cons.mpr ⟨⟨by decide, "java/lang/IndexOutOfBoundsException", q_t6_10, hnc.1⟩, fun _ h => absurd h List.not_mem_nil⟩) (by decide) (by decide) q_t5_101 (by decide +kernel) rfl (fun qx H locs hI => ?_)
        refine lv_astore (lv' := [(4, .ref qx), (0, .ref (ad k0)), (1, .int x1), (2, .int x2), (3, .ref (ad k1))]) hx hb (dc tbL_top_k 12 rfl) hl (by decide) rfl (fun ls hl => ?_)
        refine lv_iconst (v := 2) hx hb (dc tbL_top_k 13 rfl) ic_2 ?_
        cases hf
        exact x_ret (g_iret hx hb hr hlk hI (dc tbL_top_k 14 rfl))
      · have hf := ite_f c9 hf
        cases hf
theorem ch_L_top : Cond.static yL_top ∈ WA ∧ Cond.initialized yL_top.cls ∈ WA ∧ Cond.codeWith yL_top cL_top 5 (some .int) [(0, 10, 13, 18), (0, 10, 17, 13)] ∈ WA ∧ (yL_top.cls ≠ "java/lang/invoke/MethodHandle" ∧ yL_top.cls ≠ "java/lang/invoke/VarHandle" ∧ (parseMethodDescriptor yL_top.desc).map (fun d => d.parameters.length) = some 4) := ⟨q_t6_127, q_t1_0, q_t6_128, by decide +kernel⟩
def mL_hitting (k0 : Nat) (k1 : Nat) (x1 : Int32) (x2 : Int32) (M : Mem) : Option (Mem × (Int32 ⊕ Nat)) := calt (mX6_hitting k0 x1 x2 M) (fun M3 r2 => chk (okb (0 : Int32) 1) (bnd (wl M3 k1 ((0 : Int32)).toNatClampNeg (r2).toInt64) (fun M7 => some (M7, Sum.inl (0 : Int32))))) (fun M3 e4 => ite2 (e4 = 1) (some (M3, Sum.inl (1 : Int32))) (ite2 (e4 = 0) (some (M3, Sum.inl (2 : Int32))) (none)))
set_option maxHeartbeats 4000000 in
set_option maxRecDepth 100000 in
theorem tL_hitting (l : Launch) (hst : l.stackTraces = false) {G : GT} {kd : Nat → Nat × Nat} {ad : Nat → Nat} {k0 : Nat} {k1 : Nat} (hk0 : kRoot kd k0) (hk1 : kd k1 = (13, 1)) {x1 : Int32} {x2 : Int32} {M : Mem} {MO : Mem} {vo : Int32 ⊕ Nat} (hf : mL_hitting k0 k1 x1 x2 M = some (MO, vo)) (n : Nat) : vx_Met l yL_hitting (Cond.codeWith yL_hitting cL_hitting 5 (some .int) [(0, 10, 13, 18), (0, 10, 17, 13)] :: WA) (rmO 4 2 12) (Pn G kd ad n [.ref (ad k0), .int x1, .int x2, .ref (ad k1)] M) (Qx G kd ad n MO (zi vo)) (Xx G kd ad n MO (zi vo)) 2 12 (AS kd ad n) := by
  refine g_bodyXH (own := RL) (by decide) rfl ?_ (Nat.le_of_ble_eq_true rfl)
  intro p e s m args below meth c C htb hnc _ H locs ls hI hl
  obtain ⟨hx, hb, hml, hr, hown, hts, hlk, hK, hap, hsx⟩ := id C
  have hl : lv_has ls 5 [(0, .ref (ad k0)), (1, .int x1), (2, .int x2), (3, .ref (ad k1))] := hl
  unfold mL_hitting at hf
  refine lv_aload_n hx hb (dc tbL_hitting_k 0 rfl) rfl (lv_at hl 3 rfl) ?_
  refine lv_iconst (v := 0) hx hb (dc tbL_hitting_k 1 rfl) ic_0 ?_
  refine lv_aload_n hx hb (dc tbL_hitting_k 2 rfl) rfl (lv_at hl 0 rfl) ?_
  refine lv_iload_n hx hb (dc tbL_hitting_k 3 rfl) rfl (lv_at hl 1 rfl) ?_
  refine lv_iload_n hx hb (dc tbL_hitting_k 4 rfl) rfl (lv_at hl 2 rfl) ?_
  rcases calt_s hf with ⟨M3, r2, q1, hf⟩ | ⟨M3, e4, q1, hf⟩
  · refine x_callRi (g_runXV hx hb hml hown hts hK hap hsx hI (tX6_hitting l hst hk0 q1 H.size) cv_X6_hitting q_t6_140 rfl rfl ⟨Nat.le_of_ble_eq_true rfl, Nat.le_of_ble_eq_true rfl⟩ hk0.1 (by simp) rfl rfl rfl hl.1 rfl (Nat.le_of_ble_eq_true rfl) (dc tbL_hitting_k 5 rfl) ⟨Nat.le_of_ble_eq_true rfl, Nat.le_of_ble_eq_true rfl⟩) hI (fun H locs hI => ?_)
    refine lv_i2l hx hb (dc tbL_hitting_k 6 rfl) rfl ?_
    obtain ⟨h5, hf⟩ := chk_s hf
    obtain ⟨M7, e6, hf⟩ := bnd_s hf
    refine g_last hx hb hK hap hI hk1 (okb_in h5) (dc tbL_hitting_k 7 rfl) e6 (fun H locs hI => ?_)
    refine lv_goto (tgt := 21) hx hb (dc tbL_hitting_k 8 rfl) rfl ?_
    refine lv_iconst (v := 0) hx hb (dc tbL_hitting_k 15 rfl) ic_0 ?_
    cases hf
    exact x_ret (g_iret hx hb hr hlk hI (dc tbL_hitting_k 16 rfl))
  · refine by_c (c := e4 = 1) (fun c8 => ?_) (fun c8 => ?_)
    · have hf := ite_t c8 hf
      subst c8
      refine x_callC (E := "java/lang/IndexOutOfBoundsException") (g_runXV hx hb hml hown hts hK hap hsx hI (tX6_hitting l hst hk0 q1 H.size) cv_X6_hitting q_t6_140 rfl rfl ⟨Nat.le_of_ble_eq_true rfl, Nat.le_of_ble_eq_true rfl⟩ hk0.1 (by simp) rfl rfl rfl hl.1 rfl (Nat.le_of_ble_eq_true rfl) (dc tbL_hitting_k 5 rfl) ⟨Nat.le_of_ble_eq_true rfl, Nat.le_of_ble_eq_true rfl⟩) hI hown hts hsx rfl htb [] ⟨0, 10, 13, 18⟩ [⟨0, 10, 17, 13⟩] rfl (fun _ h => absurd h List.not_mem_nil) (by decide) (by decide) q_t6_10 (by decide +kernel) rfl (fun qx H locs hI => ?_)
      refine lv_astore (lv' := [(4, .ref qx), (0, .ref (ad k0)), (1, .int x1), (2, .int x2), (3, .ref (ad k1))]) hx hb (dc tbL_hitting_k 9 rfl) hl (by decide) rfl (fun ls hl => ?_)
      refine lv_iconst (v := 1) hx hb (dc tbL_hitting_k 10 rfl) ic_1 ?_
      cases hf
      exact x_ret (g_iret hx hb hr hlk hI (dc tbL_hitting_k 11 rfl))
    · have hf := ite_f c8 hf
      refine by_c (c := e4 = 0) (fun c9 => ?_) (fun c9 => ?_)
      · have hf := ite_t c9 hf
        subst c9
        refine x_callC (E := "java/lang/IllegalArgumentException") (g_runXV hx hb hml hown hts hK hap hsx hI (tX6_hitting l hst hk0 q1 H.size) cv_X6_hitting q_t6_140 rfl rfl ⟨Nat.le_of_ble_eq_true rfl, Nat.le_of_ble_eq_true rfl⟩ hk0.1 (by simp) rfl rfl rfl hl.1 rfl (Nat.le_of_ble_eq_true rfl) (dc tbL_hitting_k 5 rfl) ⟨Nat.le_of_ble_eq_true rfl, Nat.le_of_ble_eq_true rfl⟩) hI hown hts hsx rfl htb [⟨0, 10, 13, 18⟩] ⟨0, 10, 17, 13⟩ [] rfl (List.forall_mem_cons.mpr ⟨⟨by decide, "java/lang/IndexOutOfBoundsException", q_t6_10, hnc.1⟩, fun _ h => absurd h List.not_mem_nil⟩) (by decide) (by decide) q_t5_101 (by decide +kernel) rfl (fun qx H locs hI => ?_)
        refine lv_astore (lv' := [(4, .ref qx), (0, .ref (ad k0)), (1, .int x1), (2, .int x2), (3, .ref (ad k1))]) hx hb (dc tbL_hitting_k 12 rfl) hl (by decide) rfl (fun ls hl => ?_)
        refine lv_iconst (v := 2) hx hb (dc tbL_hitting_k 13 rfl) ic_2 ?_
        cases hf
        exact x_ret (g_iret hx hb hr hlk hI (dc tbL_hitting_k 14 rfl))
      · have hf := ite_f c9 hf
        cases hf
theorem ch_L_hitting : Cond.static yL_hitting ∈ WA ∧ Cond.initialized yL_hitting.cls ∈ WA ∧ Cond.codeWith yL_hitting cL_hitting 5 (some .int) [(0, 10, 13, 18), (0, 10, 17, 13)] ∈ WA ∧ (yL_hitting.cls ≠ "java/lang/invoke/MethodHandle" ∧ yL_hitting.cls ≠ "java/lang/invoke/VarHandle" ∧ (parseMethodDescriptor yL_hitting.desc).map (fun d => d.parameters.length) = some 4) := ⟨q_t6_138, q_t1_0, q_t6_139, by decide +kernel⟩
def mL_refused (k0 : Nat) (k1 : Nat) (x1 : Int32) (M : Mem) : Option (Mem × (Int32 ⊕ Nat)) := calt (mX6_refused k0 x1 M) (fun M3 r2 => chk (okb (0 : Int32) 1) (bnd (wl M3 k1 ((0 : Int32)).toNatClampNeg (r2).toInt64) (fun M7 => some (M7, Sum.inl (0 : Int32))))) (fun M3 e4 => ite2 (e4 = 0) (some (M3, Sum.inl (1 : Int32))) (none))
set_option maxHeartbeats 4000000 in
set_option maxRecDepth 100000 in
theorem tL_refused (l : Launch) (hst : l.stackTraces = false) {G : GT} {kd : Nat → Nat × Nat} {ad : Nat → Nat} {k0 : Nat} {k1 : Nat} (hk0 : kRoot kd k0) (hk1 : kd k1 = (13, 1)) {x1 : Int32} {M : Mem} {MO : Mem} {vo : Int32 ⊕ Nat} (hf : mL_refused k0 k1 x1 M = some (MO, vo)) (n : Nat) : vx_Met l yL_refused (Cond.codeWith yL_refused cL_refused 4 (some .int) [(0, 9, 12, 13)] :: WA) (rmO 5 1 6) (Pn G kd ad n [.ref (ad k0), .int x1, .ref (ad k1)] M) (Qx G kd ad n MO (zi vo)) (Xx G kd ad n MO (zi vo)) 1 6 (AS kd ad n) := by
  refine g_bodyXH (own := RL) (by decide) rfl ?_ (Nat.le_of_ble_eq_true rfl)
  intro p e s m args below meth c C htb hnc _ H locs ls hI hl
  obtain ⟨hx, hb, hml, hr, hown, hts, hlk, hK, hap, hsx⟩ := id C
  have hl : lv_has ls 4 [(0, .ref (ad k0)), (1, .int x1), (2, .ref (ad k1))] := hl
  unfold mL_refused at hf
  refine lv_aload_n hx hb (dc tbL_refused_k 0 rfl) rfl (lv_at hl 2 rfl) ?_
  refine lv_iconst (v := 0) hx hb (dc tbL_refused_k 1 rfl) ic_0 ?_
  refine lv_aload_n hx hb (dc tbL_refused_k 2 rfl) rfl (lv_at hl 0 rfl) ?_
  refine lv_iload_n hx hb (dc tbL_refused_k 3 rfl) rfl (lv_at hl 1 rfl) ?_
  rcases calt_s hf with ⟨M3, r2, q1, hf⟩ | ⟨M3, e4, q1, hf⟩
  · refine x_callRi (g_runXV hx hb hml hown hts hK hap hsx hI (tX6_refused l hst hk0 q1 H.size) cv_X6_refused q_t6_148 rfl rfl ⟨Nat.le_of_ble_eq_true rfl, Nat.le_of_ble_eq_true rfl⟩ hk0.1 (by simp) rfl rfl rfl hl.1 rfl (Nat.le_of_ble_eq_true rfl) (dc tbL_refused_k 4 rfl) ⟨Nat.le_of_ble_eq_true rfl, Nat.le_of_ble_eq_true rfl⟩) hI (fun H locs hI => ?_)
    refine lv_i2l hx hb (dc tbL_refused_k 5 rfl) rfl ?_
    obtain ⟨h5, hf⟩ := chk_s hf
    obtain ⟨M7, e6, hf⟩ := bnd_s hf
    refine g_last hx hb hK hap hI hk1 (okb_in h5) (dc tbL_refused_k 6 rfl) e6 (fun H locs hI => ?_)
    refine lv_goto (tgt := 15) hx hb (dc tbL_refused_k 7 rfl) rfl ?_
    refine lv_iconst (v := 0) hx hb (dc tbL_refused_k 11 rfl) ic_0 ?_
    cases hf
    exact x_ret (g_iret hx hb hr hlk hI (dc tbL_refused_k 12 rfl))
  · refine by_c (c := e4 = 0) (fun c8 => ?_) (fun c8 => ?_)
    · have hf := ite_t c8 hf
      subst c8
      refine x_callC (E := "java/lang/IllegalArgumentException") (g_runXV hx hb hml hown hts hK hap hsx hI (tX6_refused l hst hk0 q1 H.size) cv_X6_refused q_t6_148 rfl rfl ⟨Nat.le_of_ble_eq_true rfl, Nat.le_of_ble_eq_true rfl⟩ hk0.1 (by simp) rfl rfl rfl hl.1 rfl (Nat.le_of_ble_eq_true rfl) (dc tbL_refused_k 4 rfl) ⟨Nat.le_of_ble_eq_true rfl, Nat.le_of_ble_eq_true rfl⟩) hI hown hts hsx rfl htb [] ⟨0, 9, 12, 13⟩ [] rfl (fun _ h => absurd h List.not_mem_nil) (by decide) (by decide) q_t5_101 (by decide +kernel) rfl (fun qx H locs hI => ?_)
      refine lv_astore_n (lv' := [(3, .ref qx), (0, .ref (ad k0)), (1, .int x1), (2, .ref (ad k1))]) hx hb (dc tbL_refused_k 8 rfl) rfl hl (by decide) rfl (fun ls hl => ?_)
      refine lv_iconst (v := 1) hx hb (dc tbL_refused_k 9 rfl) ic_1 ?_
      cases hf
      exact x_ret (g_iret hx hb hr hlk hI (dc tbL_refused_k 10 rfl))
    · have hf := ite_f c8 hf
      cases hf
theorem ch_L_refused : Cond.static yL_refused ∈ WA ∧ Cond.initialized yL_refused.cls ∈ WA ∧ Cond.codeWith yL_refused cL_refused 4 (some .int) [(0, 9, 12, 13)] ∈ WA ∧ (yL_refused.cls ≠ "java/lang/invoke/MethodHandle" ∧ yL_refused.cls ≠ "java/lang/invoke/VarHandle" ∧ (parseMethodDescriptor yL_refused.desc).map (fun d => d.parameters.length) = some 3) := ⟨q_t6_146, q_t1_0, q_t6_147, by decide +kernel⟩
def mL_costOf (k0 : Nat) (k1 : Nat) (x1 : Int32) (x2 : Int32) (M : Mem) : Option (Mem × (Int32 ⊕ Nat)) := calt (mX6_costOf k0 x1 x2 M) (fun M3 r2 => chk (okb (0 : Int32) 1) (bnd (wl M3 k1 ((0 : Int32)).toNatClampNeg (r2).toInt64) (fun M7 => some (M7, Sum.inl (0 : Int32))))) (fun M3 e4 => ite2 (e4 = 1) (some (M3, Sum.inl (1 : Int32))) (ite2 (e4 = 0) (some (M3, Sum.inl (2 : Int32))) (none)))
set_option maxHeartbeats 4000000 in
set_option maxRecDepth 100000 in
theorem tL_costOf (l : Launch) (hst : l.stackTraces = false) {G : GT} {kd : Nat → Nat × Nat} {ad : Nat → Nat} {k0 : Nat} {k1 : Nat} (hk0 : kRoot kd k0) (hk1 : kd k1 = (13, 1)) {x1 : Int32} {x2 : Int32} {M : Mem} {MO : Mem} {vo : Int32 ⊕ Nat} (hf : mL_costOf k0 k1 x1 x2 M = some (MO, vo)) (n : Nat) : vx_Met l yL_costOf (Cond.codeWith yL_costOf cL_costOf 5 (some .int) [(0, 10, 13, 18), (0, 10, 17, 13)] :: WA) (rmO 5 2 12) (Pn G kd ad n [.ref (ad k0), .int x1, .int x2, .ref (ad k1)] M) (Qx G kd ad n MO (zi vo)) (Xx G kd ad n MO (zi vo)) 2 12 (AS kd ad n) := by
  refine g_bodyXH (own := RL) (by decide) rfl ?_ (Nat.le_of_ble_eq_true rfl)
  intro p e s m args below meth c C htb hnc _ H locs ls hI hl
  obtain ⟨hx, hb, hml, hr, hown, hts, hlk, hK, hap, hsx⟩ := id C
  have hl : lv_has ls 5 [(0, .ref (ad k0)), (1, .int x1), (2, .int x2), (3, .ref (ad k1))] := hl
  unfold mL_costOf at hf
  refine lv_aload_n hx hb (dc tbL_costOf_k 0 rfl) rfl (lv_at hl 3 rfl) ?_
  refine lv_iconst (v := 0) hx hb (dc tbL_costOf_k 1 rfl) ic_0 ?_
  refine lv_aload_n hx hb (dc tbL_costOf_k 2 rfl) rfl (lv_at hl 0 rfl) ?_
  refine lv_iload_n hx hb (dc tbL_costOf_k 3 rfl) rfl (lv_at hl 1 rfl) ?_
  refine lv_iload_n hx hb (dc tbL_costOf_k 4 rfl) rfl (lv_at hl 2 rfl) ?_
  rcases calt_s hf with ⟨M3, r2, q1, hf⟩ | ⟨M3, e4, q1, hf⟩
  · refine x_callRi (g_runXV hx hb hml hown hts hK hap hsx hI (tX6_costOf l hst hk0 q1 H.size) cv_X6_costOf q_t6_156 rfl rfl ⟨Nat.le_of_ble_eq_true rfl, Nat.le_of_ble_eq_true rfl⟩ hk0.1 (by simp) rfl rfl rfl hl.1 rfl (Nat.le_of_ble_eq_true rfl) (dc tbL_costOf_k 5 rfl) ⟨Nat.le_of_ble_eq_true rfl, Nat.le_of_ble_eq_true rfl⟩) hI (fun H locs hI => ?_)
    refine lv_i2l hx hb (dc tbL_costOf_k 6 rfl) rfl ?_
    obtain ⟨h5, hf⟩ := chk_s hf
    obtain ⟨M7, e6, hf⟩ := bnd_s hf
    refine g_last hx hb hK hap hI hk1 (okb_in h5) (dc tbL_costOf_k 7 rfl) e6 (fun H locs hI => ?_)
    refine lv_goto (tgt := 21) hx hb (dc tbL_costOf_k 8 rfl) rfl ?_
    refine lv_iconst (v := 0) hx hb (dc tbL_costOf_k 15 rfl) ic_0 ?_
    cases hf
    exact x_ret (g_iret hx hb hr hlk hI (dc tbL_costOf_k 16 rfl))
  · refine by_c (c := e4 = 1) (fun c8 => ?_) (fun c8 => ?_)
    · have hf := ite_t c8 hf
      subst c8
      refine x_callC (E := "java/lang/IndexOutOfBoundsException") (g_runXV hx hb hml hown hts hK hap hsx hI (tX6_costOf l hst hk0 q1 H.size) cv_X6_costOf q_t6_156 rfl rfl ⟨Nat.le_of_ble_eq_true rfl, Nat.le_of_ble_eq_true rfl⟩ hk0.1 (by simp) rfl rfl rfl hl.1 rfl (Nat.le_of_ble_eq_true rfl) (dc tbL_costOf_k 5 rfl) ⟨Nat.le_of_ble_eq_true rfl, Nat.le_of_ble_eq_true rfl⟩) hI hown hts hsx rfl htb [] ⟨0, 10, 13, 18⟩ [⟨0, 10, 17, 13⟩] rfl (fun _ h => absurd h List.not_mem_nil) (by decide) (by decide) q_t6_10 (by decide +kernel) rfl (fun qx H locs hI => ?_)
      refine lv_astore (lv' := [(4, .ref qx), (0, .ref (ad k0)), (1, .int x1), (2, .int x2), (3, .ref (ad k1))]) hx hb (dc tbL_costOf_k 9 rfl) hl (by decide) rfl (fun ls hl => ?_)
      refine lv_iconst (v := 1) hx hb (dc tbL_costOf_k 10 rfl) ic_1 ?_
      cases hf
      exact x_ret (g_iret hx hb hr hlk hI (dc tbL_costOf_k 11 rfl))
    · have hf := ite_f c8 hf
      refine by_c (c := e4 = 0) (fun c9 => ?_) (fun c9 => ?_)
      · have hf := ite_t c9 hf
        subst c9
        refine x_callC (E := "java/lang/IllegalArgumentException") (g_runXV hx hb hml hown hts hK hap hsx hI (tX6_costOf l hst hk0 q1 H.size) cv_X6_costOf q_t6_156 rfl rfl ⟨Nat.le_of_ble_eq_true rfl, Nat.le_of_ble_eq_true rfl⟩ hk0.1 (by simp) rfl rfl rfl hl.1 rfl (Nat.le_of_ble_eq_true rfl) (dc tbL_costOf_k 5 rfl) ⟨Nat.le_of_ble_eq_true rfl, Nat.le_of_ble_eq_true rfl⟩) hI hown hts hsx rfl htb [⟨0, 10, 13, 18⟩] ⟨0, 10, 17, 13⟩ [] rfl (List.forall_mem_cons.mpr ⟨⟨by decide, "java/lang/IndexOutOfBoundsException", q_t6_10, hnc.1⟩, fun _ h => absurd h List.not_mem_nil⟩) (by decide) (by decide) q_t5_101 (by decide +kernel) rfl (fun qx H locs hI => ?_)
        refine lv_astore (lv' := [(4, .ref qx), (0, .ref (ad k0)), (1, .int x1), (2, .int x2), (3, .ref (ad k1))]) hx hb (dc tbL_costOf_k 12 rfl) hl (by decide) rfl (fun ls hl => ?_)
        refine lv_iconst (v := 2) hx hb (dc tbL_costOf_k 13 rfl) ic_2 ?_
        cases hf
        exact x_ret (g_iret hx hb hr hlk hI (dc tbL_costOf_k 14 rfl))
      · have hf := ite_f c9 hf
        cases hf
theorem ch_L_costOf : Cond.static yL_costOf ∈ WA ∧ Cond.initialized yL_costOf.cls ∈ WA ∧ Cond.codeWith yL_costOf cL_costOf 5 (some .int) [(0, 10, 13, 18), (0, 10, 17, 13)] ∈ WA ∧ (yL_costOf.cls ≠ "java/lang/invoke/MethodHandle" ∧ yL_costOf.cls ≠ "java/lang/invoke/VarHandle" ∧ (parseMethodDescriptor yL_costOf.desc).map (fun d => d.parameters.length) = some 4) := ⟨q_t6_154, q_t1_0, q_t6_155, by decide +kernel⟩
def mL_planned (k0 : Nat) (k1 : Nat) (x1 : Int32) (M : Mem) : Option (Mem × (Int32 ⊕ Nat)) := calt (mX6_planned k0 x1 M) (fun M3 r2 => chk (okb (0 : Int32) 1) (bnd (wl M3 k1 ((0 : Int32)).toNatClampNeg (r2).toInt64) (fun M7 => some (M7, Sum.inl (0 : Int32))))) (fun M3 e4 => ite2 (e4 = 1) (some (M3, Sum.inl (1 : Int32))) (none))
set_option maxHeartbeats 4000000 in
set_option maxRecDepth 100000 in
theorem tL_planned (l : Launch) (hst : l.stackTraces = false) {G : GT} {kd : Nat → Nat × Nat} {ad : Nat → Nat} {k0 : Nat} {k1 : Nat} (hk0 : kRoot kd k0) (hk1 : kd k1 = (13, 1)) {x1 : Int32} {M : Mem} {MO : Mem} {vo : Int32 ⊕ Nat} (hf : mL_planned k0 k1 x1 M = some (MO, vo)) (n : Nat) : vx_Met l yL_planned (Cond.codeWith yL_planned cL_planned 4 (some .int) [(0, 9, 12, 18)] :: WA) (rmO 8 1 6) (Pn G kd ad n [.ref (ad k0), .int x1, .ref (ad k1)] M) (Qx G kd ad n MO (zi vo)) (Xx G kd ad n MO (zi vo)) 1 6 (AS kd ad n) := by
  refine g_bodyXH (own := RL) (by decide) rfl ?_ (Nat.le_of_ble_eq_true rfl)
  intro p e s m args below meth c C htb hnc _ H locs ls hI hl
  obtain ⟨hx, hb, hml, hr, hown, hts, hlk, hK, hap, hsx⟩ := id C
  have hl : lv_has ls 4 [(0, .ref (ad k0)), (1, .int x1), (2, .ref (ad k1))] := hl
  unfold mL_planned at hf
  refine lv_aload_n hx hb (dc tbL_planned_k 0 rfl) rfl (lv_at hl 2 rfl) ?_
  refine lv_iconst (v := 0) hx hb (dc tbL_planned_k 1 rfl) ic_0 ?_
  refine lv_aload_n hx hb (dc tbL_planned_k 2 rfl) rfl (lv_at hl 0 rfl) ?_
  refine lv_iload_n hx hb (dc tbL_planned_k 3 rfl) rfl (lv_at hl 1 rfl) ?_
  rcases calt_s hf with ⟨M3, r2, q1, hf⟩ | ⟨M3, e4, q1, hf⟩
  · refine x_callRi (g_runXV hx hb hml hown hts hK hap hsx hI (tX6_planned l hst hk0 q1 H.size) cv_X6_planned q_t6_170 rfl rfl ⟨Nat.le_of_ble_eq_true rfl, Nat.le_of_ble_eq_true rfl⟩ hk0.1 (by simp) rfl rfl rfl hl.1 rfl (Nat.le_of_ble_eq_true rfl) (dc tbL_planned_k 4 rfl) ⟨Nat.le_of_ble_eq_true rfl, Nat.le_of_ble_eq_true rfl⟩) hI (fun H locs hI => ?_)
    refine lv_i2l hx hb (dc tbL_planned_k 5 rfl) rfl ?_
    obtain ⟨h5, hf⟩ := chk_s hf
    obtain ⟨M7, e6, hf⟩ := bnd_s hf
    refine g_last hx hb hK hap hI hk1 (okb_in h5) (dc tbL_planned_k 6 rfl) e6 (fun H locs hI => ?_)
    refine lv_goto (tgt := 15) hx hb (dc tbL_planned_k 7 rfl) rfl ?_
    refine lv_iconst (v := 0) hx hb (dc tbL_planned_k 11 rfl) ic_0 ?_
    cases hf
    exact x_ret (g_iret hx hb hr hlk hI (dc tbL_planned_k 12 rfl))
  · refine by_c (c := e4 = 1) (fun c8 => ?_) (fun c8 => ?_)
    · have hf := ite_t c8 hf
      subst c8
      refine x_callC (E := "java/lang/IndexOutOfBoundsException") (g_runXV hx hb hml hown hts hK hap hsx hI (tX6_planned l hst hk0 q1 H.size) cv_X6_planned q_t6_170 rfl rfl ⟨Nat.le_of_ble_eq_true rfl, Nat.le_of_ble_eq_true rfl⟩ hk0.1 (by simp) rfl rfl rfl hl.1 rfl (Nat.le_of_ble_eq_true rfl) (dc tbL_planned_k 4 rfl) ⟨Nat.le_of_ble_eq_true rfl, Nat.le_of_ble_eq_true rfl⟩) hI hown hts hsx rfl htb [] ⟨0, 9, 12, 18⟩ [] rfl (fun _ h => absurd h List.not_mem_nil) (by decide) (by decide) q_t6_10 (by decide +kernel) rfl (fun qx H locs hI => ?_)
      refine lv_astore_n (lv' := [(3, .ref qx), (0, .ref (ad k0)), (1, .int x1), (2, .ref (ad k1))]) hx hb (dc tbL_planned_k 8 rfl) rfl hl (by decide) rfl (fun ls hl => ?_)
      refine lv_iconst (v := 1) hx hb (dc tbL_planned_k 9 rfl) ic_1 ?_
      cases hf
      exact x_ret (g_iret hx hb hr hlk hI (dc tbL_planned_k 10 rfl))
    · have hf := ite_f c8 hf
      cases hf
theorem ch_L_planned : Cond.static yL_planned ∈ WA ∧ Cond.initialized yL_planned.cls ∈ WA ∧ Cond.codeWith yL_planned cL_planned 4 (some .int) [(0, 9, 12, 18)] ∈ WA ∧ (yL_planned.cls ≠ "java/lang/invoke/MethodHandle" ∧ yL_planned.cls ≠ "java/lang/invoke/VarHandle" ∧ (parseMethodDescriptor yL_planned.desc).map (fun d => d.parameters.length) = some 3) := ⟨q_t6_168, q_t1_0, q_t6_169, by decide +kernel⟩
def mL_ordersWith (k0 : Nat) (k1 : Nat) (x1 : Int32) (x2 : Int32) (M : Mem) : Option (Mem × (Int32 ⊕ Nat)) := calt (mX6_ordersWith k0 x1 x2 M) (fun M3 r2 => chk (okb (0 : Int32) 1) (bnd (wl M3 k1 ((0 : Int32)).toNatClampNeg r2) (fun M7 => some (M7, Sum.inl (0 : Int32))))) (fun M3 e4 => ite2 (e4 = 1) (some (M3, Sum.inl (1 : Int32))) (ite2 (e4 = 0) (some (M3, Sum.inl (2 : Int32))) (none)))
set_option maxHeartbeats 4000000 in
set_option maxRecDepth 100000 in
theorem tL_ordersWith (l : Launch) (hst : l.stackTraces = false) {G : GT} {kd : Nat → Nat × Nat} {ad : Nat → Nat} {k0 : Nat} {k1 : Nat} (hk0 : kRoot kd k0) (hk1 : kd k1 = (13, 1)) {x1 : Int32} {x2 : Int32} {M : Mem} {MO : Mem} {vo : Int32 ⊕ Nat} (hf : mL_ordersWith k0 k1 x1 x2 M = some (MO, vo)) (n : Nat) : vx_Met l yL_ordersWith (Cond.codeWith yL_ordersWith cL_ordersWith 5 (some .int) [(0, 9, 12, 18), (0, 9, 16, 13)] :: WA) (rmO 8 2 12) (Pn G kd ad n [.ref (ad k0), .int x1, .int x2, .ref (ad k1)] M) (Qx G kd ad n MO (zi vo)) (Xx G kd ad n MO (zi vo)) 2 12 (AS kd ad n) := by
  refine g_bodyXH (own := RL) (by decide) rfl ?_ (Nat.le_of_ble_eq_true rfl)
  intro p e s m args below meth c C htb hnc _ H locs ls hI hl
  obtain ⟨hx, hb, hml, hr, hown, hts, hlk, hK, hap, hsx⟩ := id C
  have hl : lv_has ls 5 [(0, .ref (ad k0)), (1, .int x1), (2, .int x2), (3, .ref (ad k1))] := hl
  unfold mL_ordersWith at hf
  refine lv_aload_n hx hb (dc tbL_ordersWith_k 0 rfl) rfl (lv_at hl 3 rfl) ?_
  refine lv_iconst (v := 0) hx hb (dc tbL_ordersWith_k 1 rfl) ic_0 ?_
  refine lv_aload_n hx hb (dc tbL_ordersWith_k 2 rfl) rfl (lv_at hl 0 rfl) ?_
  refine lv_iload_n hx hb (dc tbL_ordersWith_k 3 rfl) rfl (lv_at hl 1 rfl) ?_
  refine lv_iload_n hx hb (dc tbL_ordersWith_k 4 rfl) rfl (lv_at hl 2 rfl) ?_
  rcases calt_s hf with ⟨M3, r2, q1, hf⟩ | ⟨M3, e4, q1, hf⟩
  · refine x_callRl (g_runXV hx hb hml hown hts hK hap hsx hI (tX6_ordersWith l hst hk0 q1 H.size) cv_X6_ordersWith q_t6_178 rfl rfl ⟨Nat.le_of_ble_eq_true rfl, Nat.le_of_ble_eq_true rfl⟩ hk0.1 (by simp) rfl rfl rfl hl.1 rfl (Nat.le_of_ble_eq_true rfl) (dc tbL_ordersWith_k 5 rfl) ⟨Nat.le_of_ble_eq_true rfl, Nat.le_of_ble_eq_true rfl⟩) hI (fun H locs hI => ?_)
    obtain ⟨h5, hf⟩ := chk_s hf
    obtain ⟨M7, e6, hf⟩ := bnd_s hf
    refine g_last hx hb hK hap hI hk1 (okb_in h5) (dc tbL_ordersWith_k 6 rfl) e6 (fun H locs hI => ?_)
    refine lv_goto (tgt := 20) hx hb (dc tbL_ordersWith_k 7 rfl) rfl ?_
    refine lv_iconst (v := 0) hx hb (dc tbL_ordersWith_k 14 rfl) ic_0 ?_
    cases hf
    exact x_ret (g_iret hx hb hr hlk hI (dc tbL_ordersWith_k 15 rfl))
  · refine by_c (c := e4 = 1) (fun c8 => ?_) (fun c8 => ?_)
    · have hf := ite_t c8 hf
      subst c8
      refine x_callC (E := "java/lang/IndexOutOfBoundsException") (g_runXV hx hb hml hown hts hK hap hsx hI (tX6_ordersWith l hst hk0 q1 H.size) cv_X6_ordersWith q_t6_178 rfl rfl ⟨Nat.le_of_ble_eq_true rfl, Nat.le_of_ble_eq_true rfl⟩ hk0.1 (by simp) rfl rfl rfl hl.1 rfl (Nat.le_of_ble_eq_true rfl) (dc tbL_ordersWith_k 5 rfl) ⟨Nat.le_of_ble_eq_true rfl, Nat.le_of_ble_eq_true rfl⟩) hI hown hts hsx rfl htb [] ⟨0, 9, 12, 18⟩ [⟨0, 9, 16, 13⟩] rfl (fun _ h => absurd h List.not_mem_nil) (by decide) (by decide) q_t6_10 (by decide +kernel) rfl (fun qx H locs hI => ?_)
      refine lv_astore (lv' := [(4, .ref qx), (0, .ref (ad k0)), (1, .int x1), (2, .int x2), (3, .ref (ad k1))]) hx hb (dc tbL_ordersWith_k 8 rfl) hl (by decide) rfl (fun ls hl => ?_)
      refine lv_iconst (v := 1) hx hb (dc tbL_ordersWith_k 9 rfl) ic_1 ?_
      cases hf
      exact x_ret (g_iret hx hb hr hlk hI (dc tbL_ordersWith_k 10 rfl))
    · have hf := ite_f c8 hf
      refine by_c (c := e4 = 0) (fun c9 => ?_) (fun c9 => ?_)
      · have hf := ite_t c9 hf
        subst c9
        refine x_callC (E := "java/lang/IllegalArgumentException") (g_runXV hx hb hml hown hts hK hap hsx hI (tX6_ordersWith l hst hk0 q1 H.size) cv_X6_ordersWith q_t6_178 rfl rfl ⟨Nat.le_of_ble_eq_true rfl, Nat.le_of_ble_eq_true rfl⟩ hk0.1 (by simp) rfl rfl rfl hl.1 rfl (Nat.le_of_ble_eq_true rfl) (dc tbL_ordersWith_k 5 rfl) ⟨Nat.le_of_ble_eq_true rfl, Nat.le_of_ble_eq_true rfl⟩) hI hown hts hsx rfl htb [⟨0, 9, 12, 18⟩] ⟨0, 9, 16, 13⟩ [] rfl (List.forall_mem_cons.mpr ⟨⟨by decide, "java/lang/IndexOutOfBoundsException", q_t6_10, hnc.1⟩, fun _ h => absurd h List.not_mem_nil⟩) (by decide) (by decide) q_t5_101 (by decide +kernel) rfl (fun qx H locs hI => ?_)
        refine lv_astore (lv' := [(4, .ref qx), (0, .ref (ad k0)), (1, .int x1), (2, .int x2), (3, .ref (ad k1))]) hx hb (dc tbL_ordersWith_k 11 rfl) hl (by decide) rfl (fun ls hl => ?_)
        refine lv_iconst (v := 2) hx hb (dc tbL_ordersWith_k 12 rfl) ic_2 ?_
        cases hf
        exact x_ret (g_iret hx hb hr hlk hI (dc tbL_ordersWith_k 13 rfl))
      · have hf := ite_f c9 hf
        cases hf
theorem ch_L_ordersWith : Cond.static yL_ordersWith ∈ WA ∧ Cond.initialized yL_ordersWith.cls ∈ WA ∧ Cond.codeWith yL_ordersWith cL_ordersWith 5 (some .int) [(0, 9, 12, 18), (0, 9, 16, 13)] ∈ WA ∧ (yL_ordersWith.cls ≠ "java/lang/invoke/MethodHandle" ∧ yL_ordersWith.cls ≠ "java/lang/invoke/VarHandle" ∧ (parseMethodDescriptor yL_ordersWith.desc).map (fun d => d.parameters.length) = some 4) := ⟨q_t6_176, q_t1_0, q_t6_177, by decide +kernel⟩
def mL_costIfTurned (k0 : Nat) (k1 : Nat) (x1 : Int32) (M : Mem) : Option (Mem × (Int32 ⊕ Nat)) := calt (mX6_costIfTurned k0 x1 M) (fun M3 r2 => chk (okb (0 : Int32) 1) (bnd (wl M3 k1 ((0 : Int32)).toNatClampNeg (r2).toInt64) (fun M7 => some (M7, Sum.inl (0 : Int32))))) (fun M3 e4 => ite2 (e4 = 1) (some (M3, Sum.inl (1 : Int32))) (ite2 (e4 = 2) (some (M3, Sum.inl (2 : Int32))) (none)))
set_option maxHeartbeats 4000000 in
set_option maxRecDepth 100000 in
theorem tL_costIfTurned (l : Launch) (hst : l.stackTraces = false) {G : GT} {kd : Nat → Nat × Nat} {ad : Nat → Nat} {k0 : Nat} {k1 : Nat} (hk0 : kRoot kd k0) (hk1 : kd k1 = (13, 1)) {x1 : Int32} {M : Mem} {MO : Mem} {vo : Int32 ⊕ Nat} (hf : mL_costIfTurned k0 k1 x1 M = some (MO, vo)) (n : Nat) : vx_Met l yL_costIfTurned (Cond.codeWith yL_costIfTurned cL_costIfTurned 4 (some .int) [(0, 9, 12, 18), (0, 9, 15, 74)] :: WA) (rmO 8 2 12) (Pn G kd ad n [.ref (ad k0), .int x1, .ref (ad k1)] M) (Qx G kd ad n MO (zi vo)) (Xx G kd ad n MO (zi vo)) 2 12 (AS kd ad n) := by
  refine g_bodyXH (own := RL) (by decide) rfl ?_ (Nat.le_of_ble_eq_true rfl)
  intro p e s m args below meth c C htb hnc _ H locs ls hI hl
  obtain ⟨hx, hb, hml, hr, hown, hts, hlk, hK, hap, hsx⟩ := id C
  have hl : lv_has ls 4 [(0, .ref (ad k0)), (1, .int x1), (2, .ref (ad k1))] := hl
  unfold mL_costIfTurned at hf
  refine lv_aload_n hx hb (dc tbL_costIfTurned_k 0 rfl) rfl (lv_at hl 2 rfl) ?_
  refine lv_iconst (v := 0) hx hb (dc tbL_costIfTurned_k 1 rfl) ic_0 ?_
  refine lv_aload_n hx hb (dc tbL_costIfTurned_k 2 rfl) rfl (lv_at hl 0 rfl) ?_
  refine lv_iload_n hx hb (dc tbL_costIfTurned_k 3 rfl) rfl (lv_at hl 1 rfl) ?_
  rcases calt_s hf with ⟨M3, r2, q1, hf⟩ | ⟨M3, e4, q1, hf⟩
  · refine x_callRi (g_runXV hx hb hml hown hts hK hap hsx hI (tX6_costIfTurned l hst hk0 q1 H.size) cv_X6_costIfTurned q_t6_186 rfl rfl ⟨Nat.le_of_ble_eq_true rfl, Nat.le_of_ble_eq_true rfl⟩ hk0.1 (by simp) rfl rfl rfl hl.1 rfl (Nat.le_of_ble_eq_true rfl) (dc tbL_costIfTurned_k 4 rfl) ⟨Nat.le_of_ble_eq_true rfl, Nat.le_of_ble_eq_true rfl⟩) hI (fun H locs hI => ?_)
    refine lv_i2l hx hb (dc tbL_costIfTurned_k 5 rfl) rfl ?_
    obtain ⟨h5, hf⟩ := chk_s hf
    obtain ⟨M7, e6, hf⟩ := bnd_s hf
    refine g_last hx hb hK hap hI hk1 (okb_in h5) (dc tbL_costIfTurned_k 6 rfl) e6 (fun H locs hI => ?_)
    refine lv_goto (tgt := 18) hx hb (dc tbL_costIfTurned_k 7 rfl) rfl ?_
    refine lv_iconst (v := 0) hx hb (dc tbL_costIfTurned_k 14 rfl) ic_0 ?_
    cases hf
    exact x_ret (g_iret hx hb hr hlk hI (dc tbL_costIfTurned_k 15 rfl))
  · refine by_c (c := e4 = 1) (fun c8 => ?_) (fun c8 => ?_)
    · have hf := ite_t c8 hf
      subst c8
      refine x_callC (E := "java/lang/IndexOutOfBoundsException") (g_runXV hx hb hml hown hts hK hap hsx hI (tX6_costIfTurned l hst hk0 q1 H.size) cv_X6_costIfTurned q_t6_186 rfl rfl ⟨Nat.le_of_ble_eq_true rfl, Nat.le_of_ble_eq_true rfl⟩ hk0.1 (by simp) rfl rfl rfl hl.1 rfl (Nat.le_of_ble_eq_true rfl) (dc tbL_costIfTurned_k 4 rfl) ⟨Nat.le_of_ble_eq_true rfl, Nat.le_of_ble_eq_true rfl⟩) hI hown hts hsx rfl htb [] ⟨0, 9, 12, 18⟩ [⟨0, 9, 15, 74⟩] rfl (fun _ h => absurd h List.not_mem_nil) (by decide) (by decide) q_t6_10 (by decide +kernel) rfl (fun qx H locs hI => ?_)
      refine lv_astore_n (lv' := [(3, .ref qx), (0, .ref (ad k0)), (1, .int x1), (2, .ref (ad k1))]) hx hb (dc tbL_costIfTurned_k 8 rfl) rfl hl (by decide) rfl (fun ls hl => ?_)
      refine lv_iconst (v := 1) hx hb (dc tbL_costIfTurned_k 9 rfl) ic_1 ?_
      cases hf
      exact x_ret (g_iret hx hb hr hlk hI (dc tbL_costIfTurned_k 10 rfl))
    · have hf := ite_f c8 hf
      refine by_c (c := e4 = 2) (fun c9 => ?_) (fun c9 => ?_)
      · have hf := ite_t c9 hf
        subst c9
        refine x_callC (E := "java/lang/IllegalStateException") (g_runXV hx hb hml hown hts hK hap hsx hI (tX6_costIfTurned l hst hk0 q1 H.size) cv_X6_costIfTurned q_t6_186 rfl rfl ⟨Nat.le_of_ble_eq_true rfl, Nat.le_of_ble_eq_true rfl⟩ hk0.1 (by simp) rfl rfl rfl hl.1 rfl (Nat.le_of_ble_eq_true rfl) (dc tbL_costIfTurned_k 4 rfl) ⟨Nat.le_of_ble_eq_true rfl, Nat.le_of_ble_eq_true rfl⟩) hI hown hts hsx rfl htb [⟨0, 9, 12, 18⟩] ⟨0, 9, 15, 74⟩ [] rfl (List.forall_mem_cons.mpr ⟨⟨by decide, "java/lang/IndexOutOfBoundsException", q_t6_10, hnc.2.1⟩, fun _ h => absurd h List.not_mem_nil⟩) (by decide) (by decide) q_t6_185 (by decide +kernel) rfl (fun qx H locs hI => ?_)
        refine lv_astore_n (lv' := [(3, .ref qx), (0, .ref (ad k0)), (1, .int x1), (2, .ref (ad k1))]) hx hb (dc tbL_costIfTurned_k 11 rfl) rfl hl (by decide) rfl (fun ls hl => ?_)
        refine lv_iconst (v := 2) hx hb (dc tbL_costIfTurned_k 12 rfl) ic_2 ?_
        cases hf
        exact x_ret (g_iret hx hb hr hlk hI (dc tbL_costIfTurned_k 13 rfl))
      · have hf := ite_f c9 hf
        cases hf
theorem ch_L_costIfTurned : Cond.static yL_costIfTurned ∈ WA ∧ Cond.initialized yL_costIfTurned.cls ∈ WA ∧ Cond.codeWith yL_costIfTurned cL_costIfTurned 4 (some .int) [(0, 9, 12, 18), (0, 9, 15, 74)] ∈ WA ∧ (yL_costIfTurned.cls ≠ "java/lang/invoke/MethodHandle" ∧ yL_costIfTurned.cls ≠ "java/lang/invoke/VarHandle" ∧ (parseMethodDescriptor yL_costIfTurned.desc).map (fun d => d.parameters.length) = some 3) := ⟨q_t6_183, q_t1_0, q_t6_184, by decide +kernel⟩
def mL_fold (k0 : Nat) (k1 : Nat) (x1 : Int32) (x2 : Int32) (M : Mem) : Option (Mem × (Int32 ⊕ Nat)) := calt (mX6_fold k0 x1 x2 M) (fun M3 r2 => chk (okb (0 : Int32) 1) (bnd (wl M3 k1 ((0 : Int32)).toNatClampNeg (r2).toInt64) (fun M7 => some (M7, Sum.inl (0 : Int32))))) (fun M3 e4 => ite2 (e4 = 1) (some (M3, Sum.inl (1 : Int32))) (ite2 (e4 = 0) (some (M3, Sum.inl (2 : Int32))) (ite2 (e4 = 2) (some (M3, Sum.inl (3 : Int32))) (none))))
set_option maxHeartbeats 4000000 in
set_option maxRecDepth 100000 in
theorem tL_fold (l : Launch) (hst : l.stackTraces = false) {G : GT} {kd : Nat → Nat × Nat} {ad : Nat → Nat} {k0 : Nat} {k1 : Nat} (hk0 : kRoot kd k0) (hk1 : kd k1 = (13, 1)) {x1 : Int32} {x2 : Int32} {M : Mem} {MO : Mem} {vo : Int32 ⊕ Nat} (hf : mL_fold k0 k1 x1 x2 M = some (MO, vo)) (n : Nat) : vx_Met l yL_fold (Cond.codeWith yL_fold cL_fold 5 (some .int) [(0, 10, 13, 18), (0, 10, 17, 13), (0, 10, 21, 74)] :: WA) (rmO 6 3 18) (Pn G kd ad n [.ref (ad k0), .int x1, .int x2, .ref (ad k1)] M) (Qx G kd ad n MO (zi vo)) (Xx G kd ad n MO (zi vo)) 3 18 (AS kd ad n) := by
  refine g_bodyXH (own := RL) (by decide) rfl ?_ (Nat.le_of_ble_eq_true rfl)
  intro p e s m args below meth c C htb hnc _ H locs ls hI hl
  obtain ⟨hx, hb, hml, hr, hown, hts, hlk, hK, hap, hsx⟩ := id C
  have hl : lv_has ls 5 [(0, .ref (ad k0)), (1, .int x1), (2, .int x2), (3, .ref (ad k1))] := hl
  unfold mL_fold at hf
  refine lv_aload_n hx hb (dc tbL_fold_k 0 rfl) rfl (lv_at hl 3 rfl) ?_
  refine lv_iconst (v := 0) hx hb (dc tbL_fold_k 1 rfl) ic_0 ?_
  refine lv_aload_n hx hb (dc tbL_fold_k 2 rfl) rfl (lv_at hl 0 rfl) ?_
  refine lv_iload_n hx hb (dc tbL_fold_k 3 rfl) rfl (lv_at hl 1 rfl) ?_
  refine lv_iload_n hx hb (dc tbL_fold_k 4 rfl) rfl (lv_at hl 2 rfl) ?_
  rcases calt_s hf with ⟨M3, r2, q1, hf⟩ | ⟨M3, e4, q1, hf⟩
  · refine x_callRi (g_runXV hx hb hml hown hts hK hap hsx hI (tX6_fold l hst hk0 q1 H.size) cv_X6_fold q_t6_213 rfl rfl ⟨Nat.le_of_ble_eq_true rfl, Nat.le_of_ble_eq_true rfl⟩ hk0.1 (by simp) rfl rfl rfl hl.1 rfl (Nat.le_of_ble_eq_true rfl) (dc tbL_fold_k 5 rfl) ⟨Nat.le_of_ble_eq_true rfl, Nat.le_of_ble_eq_true rfl⟩) hI (fun H locs hI => ?_)
    refine lv_i2l hx hb (dc tbL_fold_k 6 rfl) rfl ?_
    obtain ⟨h5, hf⟩ := chk_s hf
    obtain ⟨M7, e6, hf⟩ := bnd_s hf
    refine g_last hx hb hK hap hI hk1 (okb_in h5) (dc tbL_fold_k 7 rfl) e6 (fun H locs hI => ?_)
    refine lv_goto (tgt := 25) hx hb (dc tbL_fold_k 8 rfl) rfl ?_
    refine lv_iconst (v := 0) hx hb (dc tbL_fold_k 18 rfl) ic_0 ?_
    cases hf
    exact x_ret (g_iret hx hb hr hlk hI (dc tbL_fold_k 19 rfl))
  · refine by_c (c := e4 = 1) (fun c8 => ?_) (fun c8 => ?_)
    · have hf := ite_t c8 hf
      subst c8
      refine x_callC (E := "java/lang/IndexOutOfBoundsException") (g_runXV hx hb hml hown hts hK hap hsx hI (tX6_fold l hst hk0 q1 H.size) cv_X6_fold q_t6_213 rfl rfl ⟨Nat.le_of_ble_eq_true rfl, Nat.le_of_ble_eq_true rfl⟩ hk0.1 (by simp) rfl rfl rfl hl.1 rfl (Nat.le_of_ble_eq_true rfl) (dc tbL_fold_k 5 rfl) ⟨Nat.le_of_ble_eq_true rfl, Nat.le_of_ble_eq_true rfl⟩) hI hown hts hsx rfl htb [] ⟨0, 10, 13, 18⟩ [⟨0, 10, 17, 13⟩, ⟨0, 10, 21, 74⟩] rfl (fun _ h => absurd h List.not_mem_nil) (by decide) (by decide) q_t6_10 (by decide +kernel) rfl (fun qx H locs hI => ?_)
      refine lv_astore (lv' := [(4, .ref qx), (0, .ref (ad k0)), (1, .int x1), (2, .int x2), (3, .ref (ad k1))]) hx hb (dc tbL_fold_k 9 rfl) hl (by decide) rfl (fun ls hl => ?_)
      refine lv_iconst (v := 1) hx hb (dc tbL_fold_k 10 rfl) ic_1 ?_
      cases hf
      exact x_ret (g_iret hx hb hr hlk hI (dc tbL_fold_k 11 rfl))
    · have hf := ite_f c8 hf
      refine by_c (c := e4 = 0) (fun c9 => ?_) (fun c9 => ?_)
      · have hf := ite_t c9 hf
        subst c9
        refine x_callC (E := "java/lang/IllegalArgumentException") (g_runXV hx hb hml hown hts hK hap hsx hI (tX6_fold l hst hk0 q1 H.size) cv_X6_fold q_t6_213 rfl rfl ⟨Nat.le_of_ble_eq_true rfl, Nat.le_of_ble_eq_true rfl⟩ hk0.1 (by simp) rfl rfl rfl hl.1 rfl (Nat.le_of_ble_eq_true rfl) (dc tbL_fold_k 5 rfl) ⟨Nat.le_of_ble_eq_true rfl, Nat.le_of_ble_eq_true rfl⟩) hI hown hts hsx rfl htb [⟨0, 10, 13, 18⟩] ⟨0, 10, 17, 13⟩ [⟨0, 10, 21, 74⟩] rfl (List.forall_mem_cons.mpr ⟨⟨by decide, "java/lang/IndexOutOfBoundsException", q_t6_10, hnc.1⟩, fun _ h => absurd h List.not_mem_nil⟩) (by decide) (by decide) q_t5_101 (by decide +kernel) rfl (fun qx H locs hI => ?_)
        refine lv_astore (lv' := [(4, .ref qx), (0, .ref (ad k0)), (1, .int x1), (2, .int x2), (3, .ref (ad k1))]) hx hb (dc tbL_fold_k 12 rfl) hl (by decide) rfl (fun ls hl => ?_)
        refine lv_iconst (v := 2) hx hb (dc tbL_fold_k 13 rfl) ic_2 ?_
        cases hf
        exact x_ret (g_iret hx hb hr hlk hI (dc tbL_fold_k 14 rfl))
      · have hf := ite_f c9 hf
        refine by_c (c := e4 = 2) (fun c10 => ?_) (fun c10 => ?_)
        · have hf := ite_t c10 hf
          subst c10
          refine x_callC (E := "java/lang/IllegalStateException") (g_runXV hx hb hml hown hts hK hap hsx hI (tX6_fold l hst hk0 q1 H.size) cv_X6_fold q_t6_213 rfl rfl ⟨Nat.le_of_ble_eq_true rfl, Nat.le_of_ble_eq_true rfl⟩ hk0.1 (by simp) rfl rfl rfl hl.1 rfl (Nat.le_of_ble_eq_true rfl) (dc tbL_fold_k 5 rfl) ⟨Nat.le_of_ble_eq_true rfl, Nat.le_of_ble_eq_true rfl⟩) hI hown hts hsx rfl htb [⟨0, 10, 13, 18⟩, ⟨0, 10, 17, 13⟩] ⟨0, 10, 21, 74⟩ [] rfl (List.forall_mem_cons.mpr ⟨⟨by decide, "java/lang/IndexOutOfBoundsException", q_t6_10, hnc.2.1⟩, List.forall_mem_cons.mpr ⟨⟨by decide, "java/lang/IllegalArgumentException", q_t5_101, hnc.2.2⟩, fun _ h => absurd h List.not_mem_nil⟩⟩) (by decide) (by decide) q_t6_185 (by decide +kernel) rfl (fun qx H locs hI => ?_)
          refine lv_astore (lv' := [(4, .ref qx), (0, .ref (ad k0)), (1, .int x1), (2, .int x2), (3, .ref (ad k1))]) hx hb (dc tbL_fold_k 15 rfl) hl (by decide) rfl (fun ls hl => ?_)
          refine lv_iconst (v := 3) hx hb (dc tbL_fold_k 16 rfl) ic_3 ?_
          cases hf
          exact x_ret (g_iret hx hb hr hlk hI (dc tbL_fold_k 17 rfl))
        · have hf := ite_f c10 hf
          cases hf
theorem ch_L_fold : Cond.static yL_fold ∈ WA ∧ Cond.initialized yL_fold.cls ∈ WA ∧ Cond.codeWith yL_fold cL_fold 5 (some .int) [(0, 10, 13, 18), (0, 10, 17, 13), (0, 10, 21, 74)] ∈ WA ∧ (yL_fold.cls ≠ "java/lang/invoke/MethodHandle" ∧ yL_fold.cls ≠ "java/lang/invoke/VarHandle" ∧ (parseMethodDescriptor yL_fold.desc).map (fun d => d.parameters.length) = some 4) := ⟨q_t6_211, q_t1_0, q_t6_212, by decide +kernel⟩
def mL_foldNext (k0 : Nat) (k1 : Nat) (M : Mem) : Option (Mem × (Int32 ⊕ Nat)) := calt (mX6_foldNext k0 M) (fun M3 r2 => chk (okb (0 : Int32) 1) (bnd (wl M3 k1 ((0 : Int32)).toNatClampNeg (r2).toInt64) (fun M7 => some (M7, Sum.inl (0 : Int32))))) (fun M3 e4 => ite2 (e4 = 2) (some (M3, Sum.inl (1 : Int32))) (none))
set_option maxHeartbeats 4000000 in
set_option maxRecDepth 100000 in
theorem tL_foldNext (l : Launch) (hst : l.stackTraces = false) {G : GT} {kd : Nat → Nat × Nat} {ad : Nat → Nat} {k0 : Nat} {k1 : Nat} (hk0 : kRoot kd k0) (hk1 : kd k1 = (13, 1)) {M : Mem} {MO : Mem} {vo : Int32 ⊕ Nat} (hf : mL_foldNext k0 k1 M = some (MO, vo)) (n : Nat) : vx_Met l yL_foldNext (Cond.codeWith yL_foldNext cL_foldNext 3 (some .int) [(0, 8, 11, 74)] :: WA) (rmO 8 1 6) (Pn G kd ad n [.ref (ad k0), .ref (ad k1)] M) (Qx G kd ad n MO (zi vo)) (Xx G kd ad n MO (zi vo)) 1 6 (AS kd ad n) := by
  refine g_bodyXH (own := RL) (by decide) rfl ?_ (Nat.le_of_ble_eq_true rfl)
  intro p e s m args below meth c C htb hnc _ H locs ls hI hl
  obtain ⟨hx, hb, hml, hr, hown, hts, hlk, hK, hap, hsx⟩ := id C
  have hl : lv_has ls 3 [(0, .ref (ad k0)), (1, .ref (ad k1))] := hl
  unfold mL_foldNext at hf
  refine lv_aload_n hx hb (dc tbL_foldNext_k 0 rfl) rfl (lv_at hl 1 rfl) ?_
  refine lv_iconst (v := 0) hx hb (dc tbL_foldNext_k 1 rfl) ic_0 ?_
  refine lv_aload_n hx hb (dc tbL_foldNext_k 2 rfl) rfl (lv_at hl 0 rfl) ?_
  rcases calt_s hf with ⟨M3, r2, q1, hf⟩ | ⟨M3, e4, q1, hf⟩
  · refine x_callRi (g_runXV hx hb hml hown hts hK hap hsx hI (tX6_foldNext l hst hk0 q1 H.size) cv_X6_foldNext q_t6_229 rfl rfl ⟨Nat.le_of_ble_eq_true rfl, Nat.le_of_ble_eq_true rfl⟩ hk0.1 (by simp) rfl rfl rfl hl.1 rfl (Nat.le_of_ble_eq_true rfl) (dc tbL_foldNext_k 3 rfl) ⟨Nat.le_of_ble_eq_true rfl, Nat.le_of_ble_eq_true rfl⟩) hI (fun H locs hI => ?_)
    refine lv_i2l hx hb (dc tbL_foldNext_k 4 rfl) rfl ?_
    obtain ⟨h5, hf⟩ := chk_s hf
    obtain ⟨M7, e6, hf⟩ := bnd_s hf
    refine g_last hx hb hK hap hI hk1 (okb_in h5) (dc tbL_foldNext_k 5 rfl) e6 (fun H locs hI => ?_)
    refine lv_goto (tgt := 14) hx hb (dc tbL_foldNext_k 6 rfl) rfl ?_
    refine lv_iconst (v := 0) hx hb (dc tbL_foldNext_k 10 rfl) ic_0 ?_
    cases hf
    exact x_ret (g_iret hx hb hr hlk hI (dc tbL_foldNext_k 11 rfl))
  · refine by_c (c := e4 = 2) (fun c8 => ?_) (fun c8 => ?_)
    · have hf := ite_t c8 hf
      subst c8
      refine x_callC (E := "java/lang/IllegalStateException") (g_runXV hx hb hml hown hts hK hap hsx hI (tX6_foldNext l hst hk0 q1 H.size) cv_X6_foldNext q_t6_229 rfl rfl ⟨Nat.le_of_ble_eq_true rfl, Nat.le_of_ble_eq_true rfl⟩ hk0.1 (by simp) rfl rfl rfl hl.1 rfl (Nat.le_of_ble_eq_true rfl) (dc tbL_foldNext_k 3 rfl) ⟨Nat.le_of_ble_eq_true rfl, Nat.le_of_ble_eq_true rfl⟩) hI hown hts hsx rfl htb [] ⟨0, 8, 11, 74⟩ [] rfl (fun _ h => absurd h List.not_mem_nil) (by decide) (by decide) q_t6_185 (by decide +kernel) rfl (fun qx H locs hI => ?_)
      refine lv_astore_n (lv' := [(2, .ref qx), (0, .ref (ad k0)), (1, .ref (ad k1))]) hx hb (dc tbL_foldNext_k 7 rfl) rfl hl (by decide) rfl (fun ls hl => ?_)
      refine lv_iconst (v := 1) hx hb (dc tbL_foldNext_k 8 rfl) ic_1 ?_
      cases hf
      exact x_ret (g_iret hx hb hr hlk hI (dc tbL_foldNext_k 9 rfl))
    · have hf := ite_f c8 hf
      cases hf
theorem ch_L_foldNext : Cond.static yL_foldNext ∈ WA ∧ Cond.initialized yL_foldNext.cls ∈ WA ∧ Cond.codeWith yL_foldNext cL_foldNext 3 (some .int) [(0, 8, 11, 74)] ∈ WA ∧ (yL_foldNext.cls ≠ "java/lang/invoke/MethodHandle" ∧ yL_foldNext.cls ≠ "java/lang/invoke/VarHandle" ∧ (parseMethodDescriptor yL_foldNext.desc).map (fun d => d.parameters.length) = some 2) := ⟨q_t6_227, q_t1_0, q_t6_228, by decide +kernel⟩
def mL_setLeg (k0 : Nat) (k1 : Nat) (x1 : Int32) (x2 : Int32) (M : Mem) : Option (Mem × (Int32 ⊕ Nat)) := calt (mX6_setLeg k0 x1 x2 M) (fun M3 r2 => chk (okb (0 : Int32) 1) (bnd (wl M3 k1 ((0 : Int32)).toNatClampNeg (r2).toInt64) (fun M7 => some (M7, Sum.inl (0 : Int32))))) (fun M3 e4 => ite2 (e4 = 1) (some (M3, Sum.inl (1 : Int32))) (ite2 (e4 = 0) (some (M3, Sum.inl (2 : Int32))) (ite2 (e4 = 2) (some (M3, Sum.inl (3 : Int32))) (none))))
set_option maxHeartbeats 4000000 in
set_option maxRecDepth 100000 in
theorem tL_setLeg (l : Launch) (hst : l.stackTraces = false) {G : GT} {kd : Nat → Nat × Nat} {ad : Nat → Nat} {k0 : Nat} {k1 : Nat} (hk0 : kRoot kd k0) (hk1 : kd k1 = (13, 1)) {x1 : Int32} {x2 : Int32} {M : Mem} {MO : Mem} {vo : Int32 ⊕ Nat} (hf : mL_setLeg k0 k1 x1 x2 M = some (MO, vo)) (n : Nat) : vx_Met l yL_setLeg (Cond.codeWith yL_setLeg cL_setLeg 5 (some .int) [(0, 10, 13, 18), (0, 10, 17, 13), (0, 10, 21, 74)] :: WA) (rmO 4 3 18) (Pn G kd ad n [.ref (ad k0), .int x1, .int x2, .ref (ad k1)] M) (Qx G kd ad n MO (zi vo)) (Xx G kd ad n MO (zi vo)) 3 18 (AS kd ad n) := by
  refine g_bodyXH (own := RL) (by decide) rfl ?_ (Nat.le_of_ble_eq_true rfl)
  intro p e s m args below meth c C htb hnc _ H locs ls hI hl
  obtain ⟨hx, hb, hml, hr, hown, hts, hlk, hK, hap, hsx⟩ := id C
  have hl : lv_has ls 5 [(0, .ref (ad k0)), (1, .int x1), (2, .int x2), (3, .ref (ad k1))] := hl
  unfold mL_setLeg at hf
  refine lv_aload_n hx hb (dc tbL_setLeg_k 0 rfl) rfl (lv_at hl 3 rfl) ?_
  refine lv_iconst (v := 0) hx hb (dc tbL_setLeg_k 1 rfl) ic_0 ?_
  refine lv_aload_n hx hb (dc tbL_setLeg_k 2 rfl) rfl (lv_at hl 0 rfl) ?_
  refine lv_iload_n hx hb (dc tbL_setLeg_k 3 rfl) rfl (lv_at hl 1 rfl) ?_
  refine lv_iload_n hx hb (dc tbL_setLeg_k 4 rfl) rfl (lv_at hl 2 rfl) ?_
  rcases calt_s hf with ⟨M3, r2, q1, hf⟩ | ⟨M3, e4, q1, hf⟩
  · refine x_callRi (g_runXV hx hb hml hown hts hK hap hsx hI (tX6_setLeg l hst hk0 q1 H.size) cv_X6_setLeg q_t6_237 rfl rfl ⟨Nat.le_of_ble_eq_true rfl, Nat.le_of_ble_eq_true rfl⟩ hk0.1 (by simp) rfl rfl rfl hl.1 rfl (Nat.le_of_ble_eq_true rfl) (dc tbL_setLeg_k 5 rfl) ⟨Nat.le_of_ble_eq_true rfl, Nat.le_of_ble_eq_true rfl⟩) hI (fun H locs hI => ?_)
    refine lv_i2l hx hb (dc tbL_setLeg_k 6 rfl) rfl ?_
    obtain ⟨h5, hf⟩ := chk_s hf
    obtain ⟨M7, e6, hf⟩ := bnd_s hf
    refine g_last hx hb hK hap hI hk1 (okb_in h5) (dc tbL_setLeg_k 7 rfl) e6 (fun H locs hI => ?_)
    refine lv_goto (tgt := 25) hx hb (dc tbL_setLeg_k 8 rfl) rfl ?_
    refine lv_iconst (v := 0) hx hb (dc tbL_setLeg_k 18 rfl) ic_0 ?_
    cases hf
    exact x_ret (g_iret hx hb hr hlk hI (dc tbL_setLeg_k 19 rfl))
  · refine by_c (c := e4 = 1) (fun c8 => ?_) (fun c8 => ?_)
    · have hf := ite_t c8 hf
      subst c8
      refine x_callC (E := "java/lang/IndexOutOfBoundsException") (g_runXV hx hb hml hown hts hK hap hsx hI (tX6_setLeg l hst hk0 q1 H.size) cv_X6_setLeg q_t6_237 rfl rfl ⟨Nat.le_of_ble_eq_true rfl, Nat.le_of_ble_eq_true rfl⟩ hk0.1 (by simp) rfl rfl rfl hl.1 rfl (Nat.le_of_ble_eq_true rfl) (dc tbL_setLeg_k 5 rfl) ⟨Nat.le_of_ble_eq_true rfl, Nat.le_of_ble_eq_true rfl⟩) hI hown hts hsx rfl htb [] ⟨0, 10, 13, 18⟩ [⟨0, 10, 17, 13⟩, ⟨0, 10, 21, 74⟩] rfl (fun _ h => absurd h List.not_mem_nil) (by decide) (by decide) q_t6_10 (by decide +kernel) rfl (fun qx H locs hI => ?_)
      refine lv_astore (lv' := [(4, .ref qx), (0, .ref (ad k0)), (1, .int x1), (2, .int x2), (3, .ref (ad k1))]) hx hb (dc tbL_setLeg_k 9 rfl) hl (by decide) rfl (fun ls hl => ?_)
      refine lv_iconst (v := 1) hx hb (dc tbL_setLeg_k 10 rfl) ic_1 ?_
      cases hf
      exact x_ret (g_iret hx hb hr hlk hI (dc tbL_setLeg_k 11 rfl))
    · have hf := ite_f c8 hf
      refine by_c (c := e4 = 0) (fun c9 => ?_) (fun c9 => ?_)
      · have hf := ite_t c9 hf
        subst c9
        refine x_callC (E := "java/lang/IllegalArgumentException") (g_runXV hx hb hml hown hts hK hap hsx hI (tX6_setLeg l hst hk0 q1 H.size) cv_X6_setLeg q_t6_237 rfl rfl ⟨Nat.le_of_ble_eq_true rfl, Nat.le_of_ble_eq_true rfl⟩ hk0.1 (by simp) rfl rfl rfl hl.1 rfl (Nat.le_of_ble_eq_true rfl) (dc tbL_setLeg_k 5 rfl) ⟨Nat.le_of_ble_eq_true rfl, Nat.le_of_ble_eq_true rfl⟩) hI hown hts hsx rfl htb [⟨0, 10, 13, 18⟩] ⟨0, 10, 17, 13⟩ [⟨0, 10, 21, 74⟩] rfl (List.forall_mem_cons.mpr ⟨⟨by decide, "java/lang/IndexOutOfBoundsException", q_t6_10, hnc.1⟩, fun _ h => absurd h List.not_mem_nil⟩) (by decide) (by decide) q_t5_101 (by decide +kernel) rfl (fun qx H locs hI => ?_)
        refine lv_astore (lv' := [(4, .ref qx), (0, .ref (ad k0)), (1, .int x1), (2, .int x2), (3, .ref (ad k1))]) hx hb (dc tbL_setLeg_k 12 rfl) hl (by decide) rfl (fun ls hl => ?_)
        refine lv_iconst (v := 2) hx hb (dc tbL_setLeg_k 13 rfl) ic_2 ?_
        cases hf
        exact x_ret (g_iret hx hb hr hlk hI (dc tbL_setLeg_k 14 rfl))
      · have hf := ite_f c9 hf
        refine by_c (c := e4 = 2) (fun c10 => ?_) (fun c10 => ?_)
        · have hf := ite_t c10 hf
          subst c10
          refine x_callC (E := "java/lang/IllegalStateException") (g_runXV hx hb hml hown hts hK hap hsx hI (tX6_setLeg l hst hk0 q1 H.size) cv_X6_setLeg q_t6_237 rfl rfl ⟨Nat.le_of_ble_eq_true rfl, Nat.le_of_ble_eq_true rfl⟩ hk0.1 (by simp) rfl rfl rfl hl.1 rfl (Nat.le_of_ble_eq_true rfl) (dc tbL_setLeg_k 5 rfl) ⟨Nat.le_of_ble_eq_true rfl, Nat.le_of_ble_eq_true rfl⟩) hI hown hts hsx rfl htb [⟨0, 10, 13, 18⟩, ⟨0, 10, 17, 13⟩] ⟨0, 10, 21, 74⟩ [] rfl (List.forall_mem_cons.mpr ⟨⟨by decide, "java/lang/IndexOutOfBoundsException", q_t6_10, hnc.2.1⟩, List.forall_mem_cons.mpr ⟨⟨by decide, "java/lang/IllegalArgumentException", q_t5_101, hnc.2.2⟩, fun _ h => absurd h List.not_mem_nil⟩⟩) (by decide) (by decide) q_t6_185 (by decide +kernel) rfl (fun qx H locs hI => ?_)
          refine lv_astore (lv' := [(4, .ref qx), (0, .ref (ad k0)), (1, .int x1), (2, .int x2), (3, .ref (ad k1))]) hx hb (dc tbL_setLeg_k 15 rfl) hl (by decide) rfl (fun ls hl => ?_)
          refine lv_iconst (v := 3) hx hb (dc tbL_setLeg_k 16 rfl) ic_3 ?_
          cases hf
          exact x_ret (g_iret hx hb hr hlk hI (dc tbL_setLeg_k 17 rfl))
        · have hf := ite_f c10 hf
          cases hf
theorem ch_L_setLeg : Cond.static yL_setLeg ∈ WA ∧ Cond.initialized yL_setLeg.cls ∈ WA ∧ Cond.codeWith yL_setLeg cL_setLeg 5 (some .int) [(0, 10, 13, 18), (0, 10, 17, 13), (0, 10, 21, 74)] ∈ WA ∧ (yL_setLeg.cls ≠ "java/lang/invoke/MethodHandle" ∧ yL_setLeg.cls ≠ "java/lang/invoke/VarHandle" ∧ (parseMethodDescriptor yL_setLeg.desc).map (fun d => d.parameters.length) = some 4) := ⟨q_t6_235, q_t1_0, q_t6_236, by decide +kernel⟩
def mL_setDirection_b16 (k0 : Nat) (k1 : Nat) (y1 : Int32) (y2 : Int64) (M : Mem) : Option (Mem × (Int32 ⊕ Nat)) := chk (okb y1 1) (bnd (wl M k1 (y1).toNatClampNeg y2) (fun M8 => some (M8, Sum.inl (0 : Int32))))
set_option maxHeartbeats 4000000 in
set_option maxRecDepth 100000 in
theorem tL_setDirection_b16 {p : Program} {l : Launch} {e : Env} {s : State} {m : MethodId} {args : Array Value} {below : List Frame} {meth : Method} {c : Code} {G : GT} {kd : Nat → Nat × Nat} {ad : Nat → Nat} (C : Cx p s m args meth c cL_setDirection 5 (some .int) RL G kd ad) (hst : l.stackTraces = false) (htb : c.exceptionTable.toList = tableOf [(0, 17, 20, 18), (0, 17, 24, 74)]) (hnc : Nc s) {k0 : Nat} {k1 : Nat} (hk0 : kRoot kd k0) (hk1 : kd k1 = (13, 1)) {MO : Mem} {vo : Int32 ⊕ Nat}   : ∀ (y1 : Int32) (y2 : Int64) (M : Mem), mL_setDirection_b16 k0 k1 y1 y2 M = some (MO, vo) → At p l e (rmO 4 2 12) s m args below meth c 2 12 (XQ G kd ad below args s MO (zi vo) 2 12) G kd ad 5 16 [] [.long y2, .int y1, .ref (ad k1)] M := by
  intro y1 y2 M hf H locs ls hI hl
  obtain ⟨hx, hb, hml, hr, hown, hts, hlk, hK, hap, hsx⟩ := id C
  unfold mL_setDirection_b16 at hf
  obtain ⟨h6, hf⟩ := chk_s hf
  obtain ⟨M8, e7, hf⟩ := bnd_s hf
  refine g_last hx hb hK hap hI hk1 (okb_in h6) (dc tbL_setDirection_k 10 rfl) e7 (fun H locs hI => ?_)
  refine lv_goto (tgt := 28) hx hb (dc tbL_setDirection_k 11 rfl) rfl ?_
  refine lv_iconst (v := 0) hx hb (dc tbL_setDirection_k 18 rfl) ic_0 ?_
  cases hf
  exact x_ret (g_iret hx hb hr hlk hI (dc tbL_setDirection_k 19 rfl))
def mL_setDirection (k0 : Nat) (k1 : Nat) (x1 : Int32) (x2 : Int32) (M : Mem) : Option (Mem × (Int32 ⊕ Nat)) := calt (mX6_setDirection k0 x1 x2 M) (fun M3 r2 => ite2 (r2 = 0) (mL_setDirection_b16 k0 k1 (0 : Int32) (0 : Int64) M3) (mL_setDirection_b16 k0 k1 (0 : Int32) (1 : Int64) M3)) (fun M3 e4 => ite2 (e4 = 1) (some (M3, Sum.inl (1 : Int32))) (ite2 (e4 = 2) (some (M3, Sum.inl (2 : Int32))) (none)))
set_option maxHeartbeats 4000000 in
set_option maxRecDepth 100000 in
theorem tL_setDirection (l : Launch) (hst : l.stackTraces = false) {G : GT} {kd : Nat → Nat × Nat} {ad : Nat → Nat} {k0 : Nat} {k1 : Nat} (hk0 : kRoot kd k0) (hk1 : kd k1 = (13, 1)) {x1 : Int32} {x2 : Int32} {M : Mem} {MO : Mem} {vo : Int32 ⊕ Nat} (hf : mL_setDirection k0 k1 x1 x2 M = some (MO, vo)) (n : Nat) : vx_Met l yL_setDirection (Cond.codeWith yL_setDirection cL_setDirection 5 (some .int) [(0, 17, 20, 18), (0, 17, 24, 74)] :: WA) (rmO 4 2 12) (Pn G kd ad n [.ref (ad k0), .int x1, .int x2, .ref (ad k1)] M) (Qx G kd ad n MO (zi vo)) (Xx G kd ad n MO (zi vo)) 2 12 (AS kd ad n) := by
  refine g_bodyXH (own := RL) (by decide) rfl ?_ (Nat.le_of_ble_eq_true rfl)
  intro p e s m args below meth c C htb hnc _ H locs ls hI hl
  obtain ⟨hx, hb, hml, hr, hown, hts, hlk, hK, hap, hsx⟩ := id C
  have hl : lv_has ls 5 [(0, .ref (ad k0)), (1, .int x1), (2, .int x2), (3, .ref (ad k1))] := hl
  unfold mL_setDirection at hf
  refine lv_aload_n hx hb (dc tbL_setDirection_k 0 rfl) rfl (lv_at hl 3 rfl) ?_
  refine lv_iconst (v := 0) hx hb (dc tbL_setDirection_k 1 rfl) ic_0 ?_
  refine lv_aload_n hx hb (dc tbL_setDirection_k 2 rfl) rfl (lv_at hl 0 rfl) ?_
  refine lv_iload_n hx hb (dc tbL_setDirection_k 3 rfl) rfl (lv_at hl 1 rfl) ?_
  refine lv_iload_n hx hb (dc tbL_setDirection_k 4 rfl) rfl (lv_at hl 2 rfl) ?_
  rcases calt_s hf with ⟨M3, r2, q1, hf⟩ | ⟨M3, e4, q1, hf⟩
  · refine x_callRi (g_runXV hx hb hml hown hts hK hap hsx hI (tX6_setDirection l hst hk0 q1 H.size) cv_X6_setDirection q_t7_7 rfl rfl ⟨Nat.le_of_ble_eq_true rfl, Nat.le_of_ble_eq_true rfl⟩ hk0.1 (by simp) rfl rfl rfl hl.1 rfl (Nat.le_of_ble_eq_true rfl) (dc tbL_setDirection_k 5 rfl) ⟨Nat.le_of_ble_eq_true rfl, Nat.le_of_ble_eq_true rfl⟩) hI (fun H locs hI => ?_)
    refine lv_if_eq (tgt := 15) hx hb (dc tbL_setDirection_k 6 rfl) rfl (fun c5 => ?_) (fun c5 => ?_)
    · have hf := ite_t c5 hf
      refine lv_lconst (v := 0) hx hb (dc tbL_setDirection_k 9 rfl) (by decide) ?_
      exact tL_setDirection_b16 C hst htb hnc hk0 hk1 (0 : Int32) (0 : Int64) M3 hf _ _ _ hI (lv_sub hl [] rfl)
    · have hf := ite_f c5 hf
      refine lv_lconst (v := 1) hx hb (dc tbL_setDirection_k 7 rfl) (by decide) ?_
      refine lv_goto (tgt := 16) hx hb (dc tbL_setDirection_k 8 rfl) rfl ?_
      exact tL_setDirection_b16 C hst htb hnc hk0 hk1 (0 : Int32) (1 : Int64) M3 hf _ _ _ hI (lv_sub hl [] rfl)
  · refine by_c (c := e4 = 1) (fun c9 => ?_) (fun c9 => ?_)
    · have hf := ite_t c9 hf
      subst c9
      refine x_callC (E := "java/lang/IndexOutOfBoundsException") (g_runXV hx hb hml hown hts hK hap hsx hI (tX6_setDirection l hst hk0 q1 H.size) cv_X6_setDirection q_t7_7 rfl rfl ⟨Nat.le_of_ble_eq_true rfl, Nat.le_of_ble_eq_true rfl⟩ hk0.1 (by simp) rfl rfl rfl hl.1 rfl (Nat.le_of_ble_eq_true rfl) (dc tbL_setDirection_k 5 rfl) ⟨Nat.le_of_ble_eq_true rfl, Nat.le_of_ble_eq_true rfl⟩) hI hown hts hsx rfl htb [] ⟨0, 17, 20, 18⟩ [⟨0, 17, 24, 74⟩] rfl (fun _ h => absurd h List.not_mem_nil) (by decide) (by decide) q_t6_10 (by decide +kernel) rfl (fun qx H locs hI => ?_)
      refine lv_astore (lv' := [(4, .ref qx), (0, .ref (ad k0)), (1, .int x1), (2, .int x2), (3, .ref (ad k1))]) hx hb (dc tbL_setDirection_k 12 rfl) hl (by decide) rfl (fun ls hl => ?_)
      refine lv_iconst (v := 1) hx hb (dc tbL_setDirection_k 13 rfl) ic_1 ?_
      cases hf
      exact x_ret (g_iret hx hb hr hlk hI (dc tbL_setDirection_k 14 rfl))
    · have hf := ite_f c9 hf
      refine by_c (c := e4 = 2) (fun c10 => ?_) (fun c10 => ?_)
      · have hf := ite_t c10 hf
        subst c10
        refine x_callC (E := "java/lang/IllegalStateException") (g_runXV hx hb hml hown hts hK hap hsx hI (tX6_setDirection l hst hk0 q1 H.size) cv_X6_setDirection q_t7_7 rfl rfl ⟨Nat.le_of_ble_eq_true rfl, Nat.le_of_ble_eq_true rfl⟩ hk0.1 (by simp) rfl rfl rfl hl.1 rfl (Nat.le_of_ble_eq_true rfl) (dc tbL_setDirection_k 5 rfl) ⟨Nat.le_of_ble_eq_true rfl, Nat.le_of_ble_eq_true rfl⟩) hI hown hts hsx rfl htb [⟨0, 17, 20, 18⟩] ⟨0, 17, 24, 74⟩ [] rfl (List.forall_mem_cons.mpr ⟨⟨by decide, "java/lang/IndexOutOfBoundsException", q_t6_10, hnc.2.1⟩, fun _ h => absurd h List.not_mem_nil⟩) (by decide) (by decide) q_t6_185 (by decide +kernel) rfl (fun qx H locs hI => ?_)
        refine lv_astore (lv' := [(4, .ref qx), (0, .ref (ad k0)), (1, .int x1), (2, .int x2), (3, .ref (ad k1))]) hx hb (dc tbL_setDirection_k 15 rfl) hl (by decide) rfl (fun ls hl => ?_)
        refine lv_iconst (v := 2) hx hb (dc tbL_setDirection_k 16 rfl) ic_2 ?_
        cases hf
        exact x_ret (g_iret hx hb hr hlk hI (dc tbL_setDirection_k 17 rfl))
      · have hf := ite_f c10 hf
        cases hf
theorem ch_L_setDirection : Cond.static yL_setDirection ∈ WA ∧ Cond.initialized yL_setDirection.cls ∈ WA ∧ Cond.codeWith yL_setDirection cL_setDirection 5 (some .int) [(0, 17, 20, 18), (0, 17, 24, 74)] ∈ WA ∧ (yL_setDirection.cls ≠ "java/lang/invoke/MethodHandle" ∧ yL_setDirection.cls ≠ "java/lang/invoke/VarHandle" ∧ (parseMethodDescriptor yL_setDirection.desc).map (fun d => d.parameters.length) = some 4) := ⟨q_t7_5, q_t1_0, q_t7_6, by decide +kernel⟩
def mL_setTool (k0 : Nat) (k1 : Nat) (x1 : Int32) (x2 : Int32) (x3 : Int32) (M : Mem) : Option (Mem × (Int32 ⊕ Nat)) := calt (mX6_setTool k0 x1 x2 x3 M) (fun M3 r2 => chk (okb (0 : Int32) 1) (bnd (wl M3 k1 ((0 : Int32)).toNatClampNeg (r2).toInt64) (fun M7 => some (M7, Sum.inl (0 : Int32))))) (fun M3 e4 => ite2 (e4 = 0) (some (M3, Sum.inl (1 : Int32))) (none))
set_option maxHeartbeats 4000000 in
set_option maxRecDepth 100000 in
theorem tL_setTool (l : Launch) (hst : l.stackTraces = false) {G : GT} {kd : Nat → Nat × Nat} {ad : Nat → Nat} {k0 : Nat} {k1 : Nat} (hk0 : kRoot kd k0) (hk1 : kd k1 = (13, 1)) {x1 : Int32} {x2 : Int32} {x3 : Int32} {M : Mem} {MO : Mem} {vo : Int32 ⊕ Nat} (hf : mL_setTool k0 k1 x1 x2 x3 M = some (MO, vo)) (n : Nat) : vx_Met l yL_setTool (Cond.codeWith yL_setTool cL_setTool 6 (some .int) [(0, 12, 15, 13)] :: WA) (rmO 4 1 6) (Pn G kd ad n [.ref (ad k0), .int x1, .int x2, .int x3, .ref (ad k1)] M) (Qx G kd ad n MO (zi vo)) (Xx G kd ad n MO (zi vo)) 1 6 (AS kd ad n) := by
  refine g_bodyXH (own := RL) (by decide) rfl ?_ (Nat.le_of_ble_eq_true rfl)
  intro p e s m args below meth c C htb hnc _ H locs ls hI hl
  obtain ⟨hx, hb, hml, hr, hown, hts, hlk, hK, hap, hsx⟩ := id C
  have hl : lv_has ls 6 [(0, .ref (ad k0)), (1, .int x1), (2, .int x2), (3, .int x3), (4, .ref (ad k1))] := hl
  unfold mL_setTool at hf
  refine lv_aload hx hb (dc tbL_setTool_k 0 rfl) (lv_at hl 4 rfl) ?_
  refine lv_iconst (v := 0) hx hb (dc tbL_setTool_k 1 rfl) ic_0 ?_
  refine lv_aload_n hx hb (dc tbL_setTool_k 2 rfl) rfl (lv_at hl 0 rfl) ?_
  refine lv_iload_n hx hb (dc tbL_setTool_k 3 rfl) rfl (lv_at hl 1 rfl) ?_
  refine lv_iload_n hx hb (dc tbL_setTool_k 4 rfl) rfl (lv_at hl 2 rfl) ?_
  refine lv_iload_n hx hb (dc tbL_setTool_k 5 rfl) rfl (lv_at hl 3 rfl) ?_
  rcases calt_s hf with ⟨M3, r2, q1, hf⟩ | ⟨M3, e4, q1, hf⟩
  · refine x_callRi (g_runXV hx hb hml hown hts hK hap hsx hI (tX6_setTool l hst hk0 q1 H.size) cv_X6_setTool q_t7_14 rfl rfl ⟨Nat.le_of_ble_eq_true rfl, Nat.le_of_ble_eq_true rfl⟩ hk0.1 (by simp) rfl rfl rfl hl.1 rfl (Nat.le_of_ble_eq_true rfl) (dc tbL_setTool_k 6 rfl) ⟨Nat.le_of_ble_eq_true rfl, Nat.le_of_ble_eq_true rfl⟩) hI (fun H locs hI => ?_)
    refine lv_i2l hx hb (dc tbL_setTool_k 7 rfl) rfl ?_
    obtain ⟨h5, hf⟩ := chk_s hf
    obtain ⟨M7, e6, hf⟩ := bnd_s hf
    refine g_last hx hb hK hap hI hk1 (okb_in h5) (dc tbL_setTool_k 8 rfl) e6 (fun H locs hI => ?_)
    refine lv_goto (tgt := 19) hx hb (dc tbL_setTool_k 9 rfl) rfl ?_
    refine lv_iconst (v := 0) hx hb (dc tbL_setTool_k 13 rfl) ic_0 ?_
    cases hf
    exact x_ret (g_iret hx hb hr hlk hI (dc tbL_setTool_k 14 rfl))
  · refine by_c (c := e4 = 0) (fun c8 => ?_) (fun c8 => ?_)
    · have hf := ite_t c8 hf
      subst c8
      refine x_callC (E := "java/lang/IllegalArgumentException") (g_runXV hx hb hml hown hts hK hap hsx hI (tX6_setTool l hst hk0 q1 H.size) cv_X6_setTool q_t7_14 rfl rfl ⟨Nat.le_of_ble_eq_true rfl, Nat.le_of_ble_eq_true rfl⟩ hk0.1 (by simp) rfl rfl rfl hl.1 rfl (Nat.le_of_ble_eq_true rfl) (dc tbL_setTool_k 6 rfl) ⟨Nat.le_of_ble_eq_true rfl, Nat.le_of_ble_eq_true rfl⟩) hI hown hts hsx rfl htb [] ⟨0, 12, 15, 13⟩ [] rfl (fun _ h => absurd h List.not_mem_nil) (by decide) (by decide) q_t5_101 (by decide +kernel) rfl (fun qx H locs hI => ?_)
      refine lv_astore (lv' := [(5, .ref qx), (0, .ref (ad k0)), (1, .int x1), (2, .int x2), (3, .int x3), (4, .ref (ad k1))]) hx hb (dc tbL_setTool_k 10 rfl) hl (by decide) rfl (fun ls hl => ?_)
      refine lv_iconst (v := 1) hx hb (dc tbL_setTool_k 11 rfl) ic_1 ?_
      cases hf
      exact x_ret (g_iret hx hb hr hlk hI (dc tbL_setTool_k 12 rfl))
    · have hf := ite_f c8 hf
      cases hf
theorem ch_L_setTool : Cond.static yL_setTool ∈ WA ∧ Cond.initialized yL_setTool.cls ∈ WA ∧ Cond.codeWith yL_setTool cL_setTool 6 (some .int) [(0, 12, 15, 13)] ∈ WA ∧ (yL_setTool.cls ≠ "java/lang/invoke/MethodHandle" ∧ yL_setTool.cls ≠ "java/lang/invoke/VarHandle" ∧ (parseMethodDescriptor yL_setTool.desc).map (fun d => d.parameters.length) = some 5) := ⟨q_t7_12, q_t1_0, q_t7_13, by decide +kernel⟩
def mL_setSheet (k0 : Nat) (k1 : Nat) (x1 : Int32) (x2 : Int32) (x3 : Int32) (M : Mem) : Option (Mem × (Int32 ⊕ Nat)) := calt (mX6_setSheet k0 x1 x2 x3 M) (fun M3 r2 => chk (okb (0 : Int32) 1) (bnd (wl M3 k1 ((0 : Int32)).toNatClampNeg (r2).toInt64) (fun M7 => some (M7, Sum.inl (0 : Int32))))) (fun M3 e4 => ite2 (e4 = 0) (some (M3, Sum.inl (1 : Int32))) (none))
set_option maxHeartbeats 4000000 in
set_option maxRecDepth 100000 in
theorem tL_setSheet (l : Launch) (hst : l.stackTraces = false) {G : GT} {kd : Nat → Nat × Nat} {ad : Nat → Nat} {k0 : Nat} {k1 : Nat} (hk0 : kRoot kd k0) (hk1 : kd k1 = (13, 1)) {x1 : Int32} {x2 : Int32} {x3 : Int32} {M : Mem} {MO : Mem} {vo : Int32 ⊕ Nat} (hf : mL_setSheet k0 k1 x1 x2 x3 M = some (MO, vo)) (n : Nat) : vx_Met l yL_setSheet (Cond.codeWith yL_setSheet cL_setSheet 6 (some .int) [(0, 12, 15, 13)] :: WA) (rmO 4 1 6) (Pn G kd ad n [.ref (ad k0), .int x1, .int x2, .int x3, .ref (ad k1)] M) (Qx G kd ad n MO (zi vo)) (Xx G kd ad n MO (zi vo)) 1 6 (AS kd ad n) := by
  refine g_bodyXH (own := RL) (by decide) rfl ?_ (Nat.le_of_ble_eq_true rfl)
  intro p e s m args below meth c C htb hnc _ H locs ls hI hl
  obtain ⟨hx, hb, hml, hr, hown, hts, hlk, hK, hap, hsx⟩ := id C
  have hl : lv_has ls 6 [(0, .ref (ad k0)), (1, .int x1), (2, .int x2), (3, .int x3), (4, .ref (ad k1))] := hl
  unfold mL_setSheet at hf
  refine lv_aload hx hb (dc tbL_setSheet_k 0 rfl) (lv_at hl 4 rfl) ?_
  refine lv_iconst (v := 0) hx hb (dc tbL_setSheet_k 1 rfl) ic_0 ?_
  refine lv_aload_n hx hb (dc tbL_setSheet_k 2 rfl) rfl (lv_at hl 0 rfl) ?_
  refine lv_iload_n hx hb (dc tbL_setSheet_k 3 rfl) rfl (lv_at hl 1 rfl) ?_
  refine lv_iload_n hx hb (dc tbL_setSheet_k 4 rfl) rfl (lv_at hl 2 rfl) ?_
  refine lv_iload_n hx hb (dc tbL_setSheet_k 5 rfl) rfl (lv_at hl 3 rfl) ?_
  rcases calt_s hf with ⟨M3, r2, q1, hf⟩ | ⟨M3, e4, q1, hf⟩
  · refine x_callRi (g_runXV hx hb hml hown hts hK hap hsx hI (tX6_setSheet l hst hk0 q1 H.size) cv_X6_setSheet q_t7_24 rfl rfl ⟨Nat.le_of_ble_eq_true rfl, Nat.le_of_ble_eq_true rfl⟩ hk0.1 (by simp) rfl rfl rfl hl.1 rfl (Nat.le_of_ble_eq_true rfl) (dc tbL_setSheet_k 6 rfl) ⟨Nat.le_of_ble_eq_true rfl, Nat.le_of_ble_eq_true rfl⟩) hI (fun H locs hI => ?_)
    refine lv_i2l hx hb (dc tbL_setSheet_k 7 rfl) rfl ?_
    obtain ⟨h5, hf⟩ := chk_s hf
    obtain ⟨M7, e6, hf⟩ := bnd_s hf
    refine g_last hx hb hK hap hI hk1 (okb_in h5) (dc tbL_setSheet_k 8 rfl) e6 (fun H locs hI => ?_)
    refine lv_goto (tgt := 19) hx hb (dc tbL_setSheet_k 9 rfl) rfl ?_
    refine lv_iconst (v := 0) hx hb (dc tbL_setSheet_k 13 rfl) ic_0 ?_
    cases hf
    exact x_ret (g_iret hx hb hr hlk hI (dc tbL_setSheet_k 14 rfl))
  · refine by_c (c := e4 = 0) (fun c8 => ?_) (fun c8 => ?_)
    · have hf := ite_t c8 hf
      subst c8
      refine x_callC (E := "java/lang/IllegalArgumentException") (g_runXV hx hb hml hown hts hK hap hsx hI (tX6_setSheet l hst hk0 q1 H.size) cv_X6_setSheet q_t7_24 rfl rfl ⟨Nat.le_of_ble_eq_true rfl, Nat.le_of_ble_eq_true rfl⟩ hk0.1 (by simp) rfl rfl rfl hl.1 rfl (Nat.le_of_ble_eq_true rfl) (dc tbL_setSheet_k 6 rfl) ⟨Nat.le_of_ble_eq_true rfl, Nat.le_of_ble_eq_true rfl⟩) hI hown hts hsx rfl htb [] ⟨0, 12, 15, 13⟩ [] rfl (fun _ h => absurd h List.not_mem_nil) (by decide) (by decide) q_t5_101 (by decide +kernel) rfl (fun qx H locs hI => ?_)
      refine lv_astore (lv' := [(5, .ref qx), (0, .ref (ad k0)), (1, .int x1), (2, .int x2), (3, .int x3), (4, .ref (ad k1))]) hx hb (dc tbL_setSheet_k 10 rfl) hl (by decide) rfl (fun ls hl => ?_)
      refine lv_iconst (v := 1) hx hb (dc tbL_setSheet_k 11 rfl) ic_1 ?_
      cases hf
      exact x_ret (g_iret hx hb hr hlk hI (dc tbL_setSheet_k 12 rfl))
    · have hf := ite_f c8 hf
      cases hf
theorem ch_L_setSheet : Cond.static yL_setSheet ∈ WA ∧ Cond.initialized yL_setSheet.cls ∈ WA ∧ Cond.codeWith yL_setSheet cL_setSheet 6 (some .int) [(0, 12, 15, 13)] ∈ WA ∧ (yL_setSheet.cls ≠ "java/lang/invoke/MethodHandle" ∧ yL_setSheet.cls ≠ "java/lang/invoke/VarHandle" ∧ (parseMethodDescriptor yL_setSheet.desc).map (fun d => d.parameters.length) = some 5) := ⟨q_t7_22, q_t1_0, q_t7_23, by decide +kernel⟩
def mL_setCost (k0 : Nat) (k1 : Nat) (x1 : Int32) (x2 : Int32) (x3 : Int32) (M : Mem) : Option (Mem × (Int32 ⊕ Nat)) := calt (mX6_setCost k0 x1 x2 x3 M) (fun M3 r2 => chk (okb (0 : Int32) 1) (bnd (wl M3 k1 ((0 : Int32)).toNatClampNeg (r2).toInt64) (fun M7 => some (M7, Sum.inl (0 : Int32))))) (fun M3 e4 => ite2 (e4 = 0) (some (M3, Sum.inl (1 : Int32))) (none))
set_option maxHeartbeats 4000000 in
set_option maxRecDepth 100000 in
theorem tL_setCost (l : Launch) (hst : l.stackTraces = false) {G : GT} {kd : Nat → Nat × Nat} {ad : Nat → Nat} {k0 : Nat} {k1 : Nat} (hk0 : kRoot kd k0) (hk1 : kd k1 = (13, 1)) {x1 : Int32} {x2 : Int32} {x3 : Int32} {M : Mem} {MO : Mem} {vo : Int32 ⊕ Nat} (hf : mL_setCost k0 k1 x1 x2 x3 M = some (MO, vo)) (n : Nat) : vx_Met l yL_setCost (Cond.codeWith yL_setCost cL_setCost 6 (some .int) [(0, 12, 15, 13)] :: WA) (rmO 4 1 6) (Pn G kd ad n [.ref (ad k0), .int x1, .int x2, .int x3, .ref (ad k1)] M) (Qx G kd ad n MO (zi vo)) (Xx G kd ad n MO (zi vo)) 1 6 (AS kd ad n) := by
  refine g_bodyXH (own := RL) (by decide) rfl ?_ (Nat.le_of_ble_eq_true rfl)
  intro p e s m args below meth c C htb hnc _ H locs ls hI hl
  obtain ⟨hx, hb, hml, hr, hown, hts, hlk, hK, hap, hsx⟩ := id C
  have hl : lv_has ls 6 [(0, .ref (ad k0)), (1, .int x1), (2, .int x2), (3, .int x3), (4, .ref (ad k1))] := hl
  unfold mL_setCost at hf
  refine lv_aload hx hb (dc tbL_setCost_k 0 rfl) (lv_at hl 4 rfl) ?_
  refine lv_iconst (v := 0) hx hb (dc tbL_setCost_k 1 rfl) ic_0 ?_
  refine lv_aload_n hx hb (dc tbL_setCost_k 2 rfl) rfl (lv_at hl 0 rfl) ?_
  refine lv_iload_n hx hb (dc tbL_setCost_k 3 rfl) rfl (lv_at hl 1 rfl) ?_
  refine lv_iload_n hx hb (dc tbL_setCost_k 4 rfl) rfl (lv_at hl 2 rfl) ?_
  refine lv_iload_n hx hb (dc tbL_setCost_k 5 rfl) rfl (lv_at hl 3 rfl) ?_
  rcases calt_s hf with ⟨M3, r2, q1, hf⟩ | ⟨M3, e4, q1, hf⟩
  · refine x_callRi (g_runXV hx hb hml hown hts hK hap hsx hI (tX6_setCost l hst hk0 q1 H.size) cv_X6_setCost q_t7_34 rfl rfl ⟨Nat.le_of_ble_eq_true rfl, Nat.le_of_ble_eq_true rfl⟩ hk0.1 (by simp) rfl rfl rfl hl.1 rfl (Nat.le_of_ble_eq_true rfl) (dc tbL_setCost_k 6 rfl) ⟨Nat.le_of_ble_eq_true rfl, Nat.le_of_ble_eq_true rfl⟩) hI (fun H locs hI => ?_)
    refine lv_i2l hx hb (dc tbL_setCost_k 7 rfl) rfl ?_
    obtain ⟨h5, hf⟩ := chk_s hf
    obtain ⟨M7, e6, hf⟩ := bnd_s hf
    refine g_last hx hb hK hap hI hk1 (okb_in h5) (dc tbL_setCost_k 8 rfl) e6 (fun H locs hI => ?_)
    refine lv_goto (tgt := 19) hx hb (dc tbL_setCost_k 9 rfl) rfl ?_
    refine lv_iconst (v := 0) hx hb (dc tbL_setCost_k 13 rfl) ic_0 ?_
    cases hf
    exact x_ret (g_iret hx hb hr hlk hI (dc tbL_setCost_k 14 rfl))
  · refine by_c (c := e4 = 0) (fun c8 => ?_) (fun c8 => ?_)
    · have hf := ite_t c8 hf
      subst c8
      refine x_callC (E := "java/lang/IllegalArgumentException") (g_runXV hx hb hml hown hts hK hap hsx hI (tX6_setCost l hst hk0 q1 H.size) cv_X6_setCost q_t7_34 rfl rfl ⟨Nat.le_of_ble_eq_true rfl, Nat.le_of_ble_eq_true rfl⟩ hk0.1 (by simp) rfl rfl rfl hl.1 rfl (Nat.le_of_ble_eq_true rfl) (dc tbL_setCost_k 6 rfl) ⟨Nat.le_of_ble_eq_true rfl, Nat.le_of_ble_eq_true rfl⟩) hI hown hts hsx rfl htb [] ⟨0, 12, 15, 13⟩ [] rfl (fun _ h => absurd h List.not_mem_nil) (by decide) (by decide) q_t5_101 (by decide +kernel) rfl (fun qx H locs hI => ?_)
      refine lv_astore (lv' := [(5, .ref qx), (0, .ref (ad k0)), (1, .int x1), (2, .int x2), (3, .int x3), (4, .ref (ad k1))]) hx hb (dc tbL_setCost_k 10 rfl) hl (by decide) rfl (fun ls hl => ?_)
      refine lv_iconst (v := 1) hx hb (dc tbL_setCost_k 11 rfl) ic_1 ?_
      cases hf
      exact x_ret (g_iret hx hb hr hlk hI (dc tbL_setCost_k 12 rfl))
    · have hf := ite_f c8 hf
      cases hf
theorem ch_L_setCost : Cond.static yL_setCost ∈ WA ∧ Cond.initialized yL_setCost.cls ∈ WA ∧ Cond.codeWith yL_setCost cL_setCost 6 (some .int) [(0, 12, 15, 13)] ∈ WA ∧ (yL_setCost.cls ≠ "java/lang/invoke/MethodHandle" ∧ yL_setCost.cls ≠ "java/lang/invoke/VarHandle" ∧ (parseMethodDescriptor yL_setCost.desc).map (fun d => d.parameters.length) = some 5) := ⟨q_t7_32, q_t1_0, q_t7_33, by decide +kernel⟩
def mL_written (k0 : Nat) (k1 : Nat) (x1 : Int32) (M : Mem) : Option (Mem × (Int32 ⊕ Nat)) := calt (mX6_written k0 x1 M) (fun M3 r2 => chk (okb (0 : Int32) 1) (bnd (wl M3 k1 ((0 : Int32)).toNatClampNeg (r2).toInt64) (fun M7 => some (M7, Sum.inl (0 : Int32))))) (fun M3 e4 => ite2 (e4 = 1) (some (M3, Sum.inl (1 : Int32))) (none))
set_option maxHeartbeats 4000000 in
set_option maxRecDepth 100000 in
theorem tL_written (l : Launch) (hst : l.stackTraces = false) {G : GT} {kd : Nat → Nat × Nat} {ad : Nat → Nat} {M : Mem} {k0 : Nat} {k1 : Nat} (hk0 : kRoot kd k0) (hk1 : kd k1 = (13, 1)) (hS : Sb kd (rd M 133 0)) {x1 : Int32} {MO : Mem} {vo : Int32 ⊕ Nat} (hf : mL_written k0 k1 x1 M = some (MO, vo)) (n : Nat) : vx_Met l yL_written (Cond.codeWith yL_written cL_written 4 (some .int) [(0, 9, 12, 18)] :: WA) (rmO 5 1 6) (Pn G kd ad n [.ref (ad k0), .int x1, .ref (ad k1)] M) (Qx G kd ad n MO (zi vo)) (Xx G kd ad n MO (zi vo)) 1 6 (AS kd ad n) := by
  refine g_bodyXH (own := RL) (by decide) rfl ?_ (Nat.le_of_ble_eq_true rfl)
  intro p e s m args below meth c C htb hnc _ H locs ls hI hl
  obtain ⟨hx, hb, hml, hr, hown, hts, hlk, hK, hap, hsx⟩ := id C
  have hl : lv_has ls 4 [(0, .ref (ad k0)), (1, .int x1), (2, .ref (ad k1))] := hl
  unfold mL_written at hf
  refine lv_aload_n hx hb (dc tbL_written_k 0 rfl) rfl (lv_at hl 2 rfl) ?_
  refine lv_iconst (v := 0) hx hb (dc tbL_written_k 1 rfl) ic_0 ?_
  refine lv_aload_n hx hb (dc tbL_written_k 2 rfl) rfl (lv_at hl 0 rfl) ?_
  refine lv_iload_n hx hb (dc tbL_written_k 3 rfl) rfl (lv_at hl 1 rfl) ?_
  rcases calt_s hf with ⟨M3, r2, q1, hf⟩ | ⟨M3, e4, q1, hf⟩
  · refine x_callRi (g_runXV hx hb hml hown hts hK hap hsx hI (tX6_written l hst hk0 hS q1 H.size) cv_X6_written q_t7_44 rfl rfl ⟨Nat.le_of_ble_eq_true rfl, Nat.le_of_ble_eq_true rfl⟩ hk0.1 (by simp) rfl rfl rfl hl.1 rfl (Nat.le_of_ble_eq_true rfl) (dc tbL_written_k 4 rfl) ⟨Nat.le_of_ble_eq_true rfl, Nat.le_of_ble_eq_true rfl⟩) hI (fun H locs hI => ?_)
    refine lv_i2l hx hb (dc tbL_written_k 5 rfl) rfl ?_
    obtain ⟨h5, hf⟩ := chk_s hf
    obtain ⟨M7, e6, hf⟩ := bnd_s hf
    refine g_last hx hb hK hap hI hk1 (okb_in h5) (dc tbL_written_k 6 rfl) e6 (fun H locs hI => ?_)
    refine lv_goto (tgt := 15) hx hb (dc tbL_written_k 7 rfl) rfl ?_
    refine lv_iconst (v := 0) hx hb (dc tbL_written_k 11 rfl) ic_0 ?_
    cases hf
    exact x_ret (g_iret hx hb hr hlk hI (dc tbL_written_k 12 rfl))
  · refine by_c (c := e4 = 1) (fun c8 => ?_) (fun c8 => ?_)
    · have hf := ite_t c8 hf
      subst c8
      refine x_callC (E := "java/lang/IndexOutOfBoundsException") (g_runXV hx hb hml hown hts hK hap hsx hI (tX6_written l hst hk0 hS q1 H.size) cv_X6_written q_t7_44 rfl rfl ⟨Nat.le_of_ble_eq_true rfl, Nat.le_of_ble_eq_true rfl⟩ hk0.1 (by simp) rfl rfl rfl hl.1 rfl (Nat.le_of_ble_eq_true rfl) (dc tbL_written_k 4 rfl) ⟨Nat.le_of_ble_eq_true rfl, Nat.le_of_ble_eq_true rfl⟩) hI hown hts hsx rfl htb [] ⟨0, 9, 12, 18⟩ [] rfl (fun _ h => absurd h List.not_mem_nil) (by decide) (by decide) q_t6_10 (by decide +kernel) rfl (fun qx H locs hI => ?_)
      refine lv_astore_n (lv' := [(3, .ref qx), (0, .ref (ad k0)), (1, .int x1), (2, .ref (ad k1))]) hx hb (dc tbL_written_k 8 rfl) rfl hl (by decide) rfl (fun ls hl => ?_)
      refine lv_iconst (v := 1) hx hb (dc tbL_written_k 9 rfl) ic_1 ?_
      cases hf
      exact x_ret (g_iret hx hb hr hlk hI (dc tbL_written_k 10 rfl))
    · have hf := ite_f c8 hf
      cases hf
theorem ch_L_written : Cond.static yL_written ∈ WA ∧ Cond.initialized yL_written.cls ∈ WA ∧ Cond.codeWith yL_written cL_written 4 (some .int) [(0, 9, 12, 18)] ∈ WA ∧ (yL_written.cls ≠ "java/lang/invoke/MethodHandle" ∧ yL_written.cls ≠ "java/lang/invoke/VarHandle" ∧ (parseMethodDescriptor yL_written.desc).map (fun d => d.parameters.length) = some 3) := ⟨q_t7_42, q_t1_0, q_t7_43, by decide +kernel⟩
