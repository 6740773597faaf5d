theorem calx_n {ρ σ : Type} {x : Option (Mem × (ρ ⊕ Nat))} {k : Mem → ρ → Option (Mem × (σ ⊕ Nat))} {MO : Mem} {vo : σ} (h : calx x k = some (MO, .inl vo)) : ∃ M r, x = some (M, .inl r) ∧ k M r = some (MO, .inl vo) := by
  rcases calx_s h with ⟨M, r, h1, h2⟩ | ⟨e, -, h2⟩
  · exact ⟨M, r, h1, h2⟩
  · cases h2
set_option maxHeartbeats 4000000 in
set_option maxRecDepth 100000 in
theorem tX6_load_nt_b12 {p : Program} {l : Launch} {e : Env} {s : State} {m : MethodId} {args : Array Value} {below : List Frame} {meth : Method} {c : Code} {G : GT} {kd : Nat → Nat × Nat} {ad : Nat → Nat} (C : Cx p s m args meth c cX6_load 2 (some .int) RX6 G kd ad) {k0 : Nat} (hk0 : kRoot kd k0) {MO : Mem} {vo : Int32}   : ∀  (M : Mem), mX6_load_b12 k0 M = some (MO, Sum.inl vo) → At p l e (rmO 8 0 0) s m args below meth c 0 0 (MQ below (Qg G kd ad s.heap.size MO (some (.int vo))) args s 0 0 (AS kd ad s.heap.size)) G kd ad 2 12 [] [] M := by
  intro M hf H locs ls hI hl
  obtain ⟨hx, hb, hml, hr, hown, hts, hlk, hK, hap, hsx⟩ := id C
  unfold mX6_load_b12 at hf
  cases hf
set_option maxHeartbeats 4000000 in
set_option maxRecDepth 100000 in
theorem tX6_load_nt (l : Launch) {G : GT} {kd : Nat → Nat × Nat} {ad : Nat → Nat} {k0 : Nat} (hk0 : kRoot kd k0) {x1 : Int32} {M : Mem} {MO : Mem} {vo : Int32} (hf : mX6_load k0 x1 M = some (MO, Sum.inl vo)) (n : Nat) : Met l yX6_load (Cond.code yX6_load cX6_load 2 (some .int) :: WA) (rmO 8 0 0) (Pg G kd ad n [.ref (ad k0), .int x1] M) (Qg G kd ad n MO (some (.int vo))) 0 0 (AS kd ad n) := by
  refine g_body (own := RX6) (by decide) rfl ?_ (Nat.le_of_ble_eq_true rfl)
  intro p e s m args below meth c C _ H locs ls hI hl
  obtain ⟨hx, hb, hml, hr, hown, hts, hlk, hK, hap, hsx⟩ := id C
  have hl : lv_has ls 2 [(0, .ref (ad k0)), (1, .int x1)] := hl
  unfold mX6_load at hf
  refine lv_iload_n hx hb (dc tbX6_load_k 0 rfl) rfl (lv_at hl 1 rfl) ?_
  refine lv_if_lt (tgt := 12) hx hb (dc tbX6_load_k 1 rfl) rfl (fun c1 => ?_) (fun c1 => ?_)
  · have hf := ite_t c1 hf
    exact tX6_load_nt_b12 C hk0 M hf _ _ _ hI (lv_sub hl [] rfl)
  · have hf := ite_f c1 hf
    refine lv_iload_n hx hb (dc tbX6_load_k 2 rfl) rfl (lv_at hl 1 rfl) ?_
    refine lv_aload_n hx hb (dc tbX6_load_k 3 rfl) rfl (lv_at hl 0 rfl) ?_
    refine gg6_1 hx hb hts hown hK hI hk0.1 q_t2_63 (dc tbX6_load_k 4 rfl) ?_
    refine lv_icmp_le (tgt := 22) hx hb (dc tbX6_load_k 5 rfl) rfl (fun c2 => ?_) (fun c2 => ?_)
    · have hf := ite_t c2 hf
      refine lv_aload_n hx hb (dc tbX6_load_k 11 rfl) rfl (lv_at hl 0 rfl) ?_
      refine lv_iconst (v := 0) hx hb (dc tbX6_load_k 12 rfl) ic_0 ?_
      obtain ⟨M3, e4, hf⟩ := bnd_s hf
      refine gp6_1 hx hb hts hown hK hap hI hk0.1 q_t2_63 (dc tbX6_load_k 13 rfl) e4 (fun H locs hI => ?_)
      refine lv_aload_n hx hb (dc tbX6_load_k 14 rfl) rfl (lv_at hl 0 rfl) ?_
      refine gg6_2 hx hb hts hown hK hI hk0.1 q_t2_64 (dc tbX6_load_k 15 rfl) ?_
      refine lv_aload_n hx hb (dc tbX6_load_k 16 rfl) rfl (lv_at hl 0 rfl) ?_
      refine gg6_0 hx hb hts hown hK hI hk0.1 q_t2_62 (dc tbX6_load_k 17 rfl) ?_
      refine lv_iload_n hx hb (dc tbX6_load_k 18 rfl) rfl (lv_at hl 1 rfl) ?_
      refine lv_aload_n hx hb (dc tbX6_load_k 19 rfl) rfl (lv_at hl 0 rfl) ?_
      refine gg6_4 hx hb hts hown hK hI hk0.1 q_t2_66 (dc tbX6_load_k 20 rfl) ?_
      obtain ⟨M7, r6, q5, hf⟩ := cal_s hf
      refine g_callVi hx hb hml hown hts hK hap hsx hI (tX4_readText l hk0.2.2.1 hk0.2.1 hk0.2.2.2.2.1 q5 H.size) cv_X4_readText q_t3_60 rfl rfl ⟨Nat.le_of_ble_eq_true rfl, Nat.le_of_ble_eq_true rfl⟩ hk0.2.2.1.1 (by simp) rfl rfl rfl hl.1 rfl (Nat.le_of_ble_eq_true rfl) (dc tbX6_load_k 21 rfl) ⟨Nat.le_of_ble_eq_true rfl, Nat.le_of_ble_eq_true rfl⟩ (fun H locs hI => ?_)
      refine lv_if_ne (tgt := 49) hx hb (dc tbX6_load_k 22 rfl) rfl (fun c8 => ?_) (fun c8 => ?_)
      · have hf := ite_f c8 hf
        refine lv_aload_n hx hb (dc tbX6_load_k 25 rfl) rfl (lv_at hl 0 rfl) ?_
        refine gg6_3 hx hb hts hown hK hI hk0.1 q_t2_65 (dc tbX6_load_k 26 rfl) ?_
        refine lv_aload_n hx hb (dc tbX6_load_k 27 rfl) rfl (lv_at hl 0 rfl) ?_
        refine gg6_4 hx hb hts hown hK hI hk0.1 q_t2_66 (dc tbX6_load_k 28 rfl) ?_
        obtain ⟨M11, r10, q9, hf⟩ := cal_s hf
        refine g_callVv hx hb hml hown hts hK hap hsx hI (tX1_copyFrom l hk0.2.2.2.1 hk0.2.2.2.2.1 q9 H.size) cv_X1_copyFrom q_t3_180 rfl rfl ⟨Nat.le_of_ble_eq_true rfl, Nat.le_of_ble_eq_true rfl⟩ hk0.2.2.2.1.1 (by simp) rfl rfl rfl hl.1 rfl (Nat.le_of_ble_eq_true rfl) (dc tbX6_load_k 29 rfl) ⟨Nat.le_of_ble_eq_true rfl, Nat.le_of_ble_eq_true rfl⟩ (fun H locs hI => ?_)
        refine lv_aload_n hx hb (dc tbX6_load_k 30 rfl) rfl (lv_at hl 0 rfl) ?_
        refine gg6_5 hx hb hts hown hK hI hk0.1 q_t2_67 (dc tbX6_load_k 31 rfl) ?_
        obtain ⟨M14, r13, q12, hf⟩ := cal_s hf
        refine g_callVv hx hb hml hown hts hK hap hsx hI (tX0_forgetAll l hk0.2.2.2.2.2.1 q12 H.size) cv_X0_forgetAll q_t3_187 rfl rfl ⟨Nat.le_of_ble_eq_true rfl, Nat.le_of_ble_eq_true rfl⟩ hk0.2.2.2.2.2.1.1 (by simp) rfl rfl rfl hl.1 rfl (Nat.le_of_ble_eq_true rfl) (dc tbX6_load_k 32 rfl) ⟨Nat.le_of_ble_eq_true rfl, Nat.le_of_ble_eq_true rfl⟩ (fun H locs hI => ?_)
        refine lv_aload_n hx hb (dc tbX6_load_k 33 rfl) rfl (lv_at hl 0 rfl) ?_
        refine gg6_3 hx hb hts hown hK hI hk0.1 q_t2_65 (dc tbX6_load_k 34 rfl) ?_
        obtain ⟨r16, q15, hf⟩ := cap_s hf
        refine g_callVi hx hb hml hown hts hK hap hsx hI (tX1_bendCount l hk0.2.2.2.1 q15 H.size) cv_X1_bendCount q_t2_106 rfl rfl ⟨Nat.le_of_ble_eq_true rfl, Nat.le_of_ble_eq_true rfl⟩ hk0.2.2.2.1.1 (by simp) rfl rfl rfl hl.1 rfl (Nat.le_of_ble_eq_true rfl) (dc tbX6_load_k 35 rfl) ⟨Nat.le_of_ble_eq_true rfl, Nat.le_of_ble_eq_true rfl⟩ (fun H locs hI => ?_)
        cases hf
        exact g_iret hx hb hr hlk hI (dc tbX6_load_k 36 rfl)
      · have hf := ite_t c8 hf
        refine lv_bipush (v := -3) hx hb (dc tbX6_load_k 23 rfl) bp_m3 ?_
        cases hf
        exact g_iret hx hb hr hlk hI (dc tbX6_load_k 24 rfl)
    · have hf := ite_f c2 hf
      exact tX6_load_nt_b12 C hk0 M hf _ _ _ hI (lv_sub hl [] rfl)
set_option maxHeartbeats 4000000 in
set_option maxRecDepth 100000 in
theorem tX6_requireBend_nt_b21 {p : Program} {l : Launch} {e : Env} {s : State} {m : MethodId} {args : Array Value} {below : List Frame} {meth : Method} {c : Code} {G : GT} {kd : Nat → Nat × Nat} {ad : Nat → Nat} (C : Cx p s m args meth c cX6_requireBend 2 none RX6 G kd ad) {k0 : Nat} (hk0 : kRoot kd k0) {MO : Mem} {vo : Unit}   : ∀  (M : Mem), mX6_requireBend_b21 k0 M = some (MO, Sum.inl vo) → At p l e (rmO 1 0 0) s m args below meth c 0 0 (MQ below (Qg G kd ad s.heap.size MO none) args s 0 0 (AS kd ad s.heap.size)) G kd ad 2 21 [] [] M := by
  intro M hf H locs ls hI hl
  obtain ⟨hx, hb, hml, hr, hown, hts, hlk, hK, hap, hsx⟩ := id C
  unfold mX6_requireBend_b21 at hf
  cases hf
set_option maxHeartbeats 4000000 in
set_option maxRecDepth 100000 in
theorem tX6_requireBend_nt (l : Launch) {G : GT} {kd : Nat → Nat × Nat} {ad : Nat → Nat} {k0 : Nat} (hk0 : kRoot kd k0) {x1 : Int32} {M : Mem} {MO : Mem} {vo : Unit} (hf : mX6_requireBend k0 x1 M = some (MO, Sum.inl vo)) (n : Nat) : Met l yX6_requireBend (Cond.code yX6_requireBend cX6_requireBend 2 none :: WA) (rmO 1 0 0) (Pg G kd ad n [.ref (ad k0), .int x1] M) (Qg G kd ad n MO none) 0 0 (AS kd ad n) := by
  refine g_body (own := RX6) (by decide) rfl ?_ (Nat.le_of_ble_eq_true rfl)
  intro p e s m args below meth c C _ H locs ls hI hl
  obtain ⟨hx, hb, hml, hr, hown, hts, hlk, hK, hap, hsx⟩ := id C
  have hl : lv_has ls 2 [(0, .ref (ad k0)), (1, .int x1)] := hl
  unfold mX6_requireBend at hf
  refine lv_iload_n hx hb (dc tbX6_requireBend_k 0 rfl) rfl (lv_at hl 1 rfl) ?_
  refine lv_if_lt (tgt := 21) hx hb (dc tbX6_requireBend_k 1 rfl) rfl (fun c1 => ?_) (fun c1 => ?_)
  · have hf := ite_t c1 hf
    exact tX6_requireBend_nt_b21 C hk0 M hf _ _ _ hI (lv_sub hl [] rfl)
  · have hf := ite_f c1 hf
    refine lv_iload_n hx hb (dc tbX6_requireBend_k 2 rfl) rfl (lv_at hl 1 rfl) ?_
    refine lv_aload_n hx hb (dc tbX6_requireBend_k 3 rfl) rfl (lv_at hl 0 rfl) ?_
    refine gg6_3 hx hb hts hown hK hI hk0.1 q_t2_65 (dc tbX6_requireBend_k 4 rfl) ?_
    obtain ⟨r3, q2, hf⟩ := cap_s hf
    refine g_callVi hx hb hml hown hts hK hap hsx hI (tX1_bendCount l hk0.2.2.2.1 q2 H.size) cv_X1_bendCount q_t2_106 rfl rfl ⟨Nat.le_of_ble_eq_true rfl, Nat.le_of_ble_eq_true rfl⟩ hk0.2.2.2.1.1 (by simp) rfl rfl rfl hl.1 rfl (Nat.le_of_ble_eq_true rfl) (dc tbX6_requireBend_k 5 rfl) ⟨Nat.le_of_ble_eq_true rfl, Nat.le_of_ble_eq_true rfl⟩ (fun H locs hI => ?_)
    refine lv_icmp_ge (tgt := 21) hx hb (dc tbX6_requireBend_k 6 rfl) rfl (fun c5 => ?_) (fun c5 => ?_)
    · have hf := ite_t c5 hf
      exact tX6_requireBend_nt_b21 C hk0 M hf _ _ _ hI (lv_sub hl [] rfl)
    · have hf := ite_f c5 hf
      refine lv_iload_n hx hb (dc tbX6_requireBend_k 7 rfl) rfl (lv_at hl 1 rfl) ?_
      refine lv_bipush (v := 8) hx hb (dc tbX6_requireBend_k 8 rfl) bp_8 ?_
      refine lv_icmp_lt (tgt := 32) hx hb (dc tbX6_requireBend_k 9 rfl) rfl (fun c6 => ?_) (fun c6 => ?_)
      · have hf := ite_t c6 hf
        cases hf
        exact g_vret hx hb hr hlk hI (dc tbX6_requireBend_k 15 rfl)
      · have hf := ite_f c6 hf
        exact tX6_requireBend_nt_b21 C hk0 M hf _ _ _ hI (lv_sub hl [] rfl)
set_option maxHeartbeats 4000000 in
set_option maxRecDepth 100000 in
theorem tX6_isUp_nt (l : Launch) {G : GT} {kd : Nat → Nat × Nat} {ad : Nat → Nat} {k0 : Nat} (hk0 : kRoot kd k0) {x1 : Int32} {M : Mem} {MO : Mem} {vo : Int32} (hf : mX6_isUp k0 x1 M = some (MO, Sum.inl vo)) (n : Nat) : Met l yX6_isUp (Cond.code yX6_isUp cX6_isUp 2 (some .boolean) :: WA) (rmO 2 0 0) (Pg G kd ad n [.ref (ad k0), .int x1] M) (Qg G kd ad n MO (some (.int vo))) 0 0 (AS kd ad n) := by
  refine g_body (own := RX6) (by decide) rfl ?_ (Nat.le_of_ble_eq_true rfl)
  intro p e s m args below meth c C _ H locs ls hI hl
  obtain ⟨hx, hb, hml, hr, hown, hts, hlk, hK, hap, hsx⟩ := id C
  have hl : lv_has ls 2 [(0, .ref (ad k0)), (1, .int x1)] := hl
  unfold mX6_isUp at hf
  refine lv_aload_n hx hb (dc tbX6_isUp_k 0 rfl) rfl (lv_at hl 0 rfl) ?_
  refine lv_iload_n hx hb (dc tbX6_isUp_k 1 rfl) rfl (lv_at hl 1 rfl) ?_
  obtain ⟨M3, r2, q1, hf⟩ := calx_n hf
  refine g_callVv hx hb hml hown hts hK hap hsx hI (tX6_requireBend_nt l hk0 q1 H.size) cv_X6_requireBend q_t2_102 rfl rfl ⟨Nat.le_of_ble_eq_true rfl, Nat.le_of_ble_eq_true rfl⟩ hk0.1 (by simp) rfl rfl rfl hl.1 rfl (Nat.le_of_ble_eq_true rfl) (dc tbX6_isUp_k 2 rfl) ⟨Nat.le_of_ble_eq_true rfl, Nat.le_of_ble_eq_true rfl⟩ (fun H locs hI => ?_)
  refine lv_aload_n hx hb (dc tbX6_isUp_k 3 rfl) rfl (lv_at hl 0 rfl) ?_
  refine gg6_3 hx hb hts hown hK hI hk0.1 q_t2_65 (dc tbX6_isUp_k 4 rfl) ?_
  refine lv_iload_n hx hb (dc tbX6_isUp_k 5 rfl) rfl (lv_at hl 1 rfl) ?_
  obtain ⟨r5, q4, hf⟩ := cap_s hf
  refine g_callVi hx hb hml hown hts hK hap hsx hI (tX1_goesUp l hk0.2.2.2.1 q4 H.size) cv_X1_goesUp q_t2_177 rfl rfl ⟨Nat.le_of_ble_eq_true rfl, Nat.le_of_ble_eq_true rfl⟩ hk0.2.2.2.1.1 (by simp) rfl rfl rfl hl.1 rfl (Nat.le_of_ble_eq_true rfl) (dc tbX6_isUp_k 6 rfl) ⟨Nat.le_of_ble_eq_true rfl, Nat.le_of_ble_eq_true rfl⟩ (fun H locs hI => ?_)
  obtain ⟨h7, hf⟩ := chk_s hf
  cases hf
  exact g_zret hx hb hr hlk hI (isB_n h7) (dc tbX6_isUp_k 7 rfl)
set_option maxHeartbeats 4000000 in
set_option maxRecDepth 100000 in
theorem tX6_requireLeg_nt_b21 {p : Program} {l : Launch} {e : Env} {s : State} {m : MethodId} {args : Array Value} {below : List Frame} {meth : Method} {c : Code} {G : GT} {kd : Nat → Nat × Nat} {ad : Nat → Nat} (C : Cx p s m args meth c cX6_requireLeg 2 none RX6 G kd ad) {k0 : Nat} (hk0 : kRoot kd k0) {MO : Mem} {vo : Unit}   : ∀  (M : Mem), mX6_requireLeg_b21 k0 M = some (MO, Sum.inl vo) → At p l e (rmO 0 0 0) s m args below meth c 0 0 (MQ below (Qg G kd ad s.heap.size MO none) args s 0 0 (AS kd ad s.heap.size)) G kd ad 2 21 [] [] M := by
  intro M hf H locs ls hI hl
  obtain ⟨hx, hb, hml, hr, hown, hts, hlk, hK, hap, hsx⟩ := id C
  unfold mX6_requireLeg_b21 at hf
  cases hf
set_option maxHeartbeats 4000000 in
set_option maxRecDepth 100000 in
theorem tX6_requireLeg_nt (l : Launch) {G : GT} {kd : Nat → Nat × Nat} {ad : Nat → Nat} {k0 : Nat} (hk0 : kRoot kd k0) {x1 : Int32} {M : Mem} {MO : Mem} {vo : Unit} (hf : mX6_requireLeg k0 x1 M = some (MO, Sum.inl vo)) (n : Nat) : Met l yX6_requireLeg (Cond.code yX6_requireLeg cX6_requireLeg 2 none :: WA) (rmO 0 0 0) (Pg G kd ad n [.ref (ad k0), .int x1] M) (Qg G kd ad n MO none) 0 0 (AS kd ad n) := by
  refine g_body (own := RX6) (by decide) rfl ?_ (Nat.le_of_ble_eq_true rfl)
  intro p e s m args below meth c C _ H locs ls hI hl
  obtain ⟨hx, hb, hml, hr, hown, hts, hlk, hK, hap, hsx⟩ := id C
  have hl : lv_has ls 2 [(0, .ref (ad k0)), (1, .int x1)] := hl
  unfold mX6_requireLeg at hf
  refine lv_iload_n hx hb (dc tbX6_requireLeg_k 0 rfl) rfl (lv_at hl 1 rfl) ?_
  refine lv_if_lt (tgt := 21) hx hb (dc tbX6_requireLeg_k 1 rfl) rfl (fun c1 => ?_) (fun c1 => ?_)
  · have hf := ite_t c1 hf
    exact tX6_requireLeg_nt_b21 C hk0 M hf _ _ _ hI (lv_sub hl [] rfl)
  · have hf := ite_f c1 hf
    refine lv_iload_n hx hb (dc tbX6_requireLeg_k 2 rfl) rfl (lv_at hl 1 rfl) ?_
    refine lv_aload_n hx hb (dc tbX6_requireLeg_k 3 rfl) rfl (lv_at hl 0 rfl) ?_
    refine gg6_3 hx hb hts hown hK hI hk0.1 q_t2_65 (dc tbX6_requireLeg_k 4 rfl) ?_
    refine gg1_0 hx hb hts hown hK hI hk0.2.2.2.1.1 q_t1_100 (dc tbX6_requireLeg_k 5 rfl) ?_
    refine lv_icmp_ge (tgt := 21) hx hb (dc tbX6_requireLeg_k 6 rfl) rfl (fun c2 => ?_) (fun c2 => ?_)
    · have hf := ite_t c2 hf
      exact tX6_requireLeg_nt_b21 C hk0 M hf _ _ _ hI (lv_sub hl [] rfl)
    · have hf := ite_f c2 hf
      refine lv_iload_n hx hb (dc tbX6_requireLeg_k 7 rfl) rfl (lv_at hl 1 rfl) ?_
      refine lv_bipush (v := 9) hx hb (dc tbX6_requireLeg_k 8 rfl) bp_9 ?_
      refine lv_icmp_lt (tgt := 32) hx hb (dc tbX6_requireLeg_k 9 rfl) rfl (fun c3 => ?_) (fun c3 => ?_)
      · have hf := ite_t c3 hf
        cases hf
        exact g_vret hx hb hr hlk hI (dc tbX6_requireLeg_k 15 rfl)
      · have hf := ite_f c3 hf
        exact tX6_requireLeg_nt_b21 C hk0 M hf _ _ _ hI (lv_sub hl [] rfl)
set_option maxHeartbeats 4000000 in
set_option maxRecDepth 100000 in
theorem tX6_requireChoice_nt_b9 {p : Program} {l : Launch} {e : Env} {s : State} {m : MethodId} {args : Array Value} {below : List Frame} {meth : Method} {c : Code} {G : GT} {kd : Nat → Nat × Nat} {ad : Nat → Nat} (C : Cx p s m args meth c cX6_requireChoice 2 none RX6 G kd ad)  {MO : Mem} {vo : Unit}   : ∀  (M : Mem), mX6_requireChoice_b9  M = some (MO, Sum.inl vo) → At p l e (rmO 0 0 0) s m args below meth c 0 0 (MQ below (Qg G kd ad s.heap.size MO none) args s 0 0 (AS kd ad s.heap.size)) G kd ad 2 9 [] [] M := by
  intro M hf H locs ls hI hl
  obtain ⟨hx, hb, hml, hr, hown, hts, hlk, hK, hap, hsx⟩ := id C
  unfold mX6_requireChoice_b9 at hf
  cases hf
set_option maxHeartbeats 4000000 in
set_option maxRecDepth 100000 in
theorem tX6_requireChoice_nt (l : Launch) {G : GT} {kd : Nat → Nat × Nat} {ad : Nat → Nat}  {x0 : Int32} {x1 : Int32} {M : Mem} {MO : Mem} {vo : Unit} (hf : mX6_requireChoice  x0 x1 M = some (MO, Sum.inl vo)) (n : Nat) : Met l yX6_requireChoice (Cond.code yX6_requireChoice cX6_requireChoice 2 none :: WA) (rmO 0 0 0) (Pg G kd ad n [.int x0, .int x1] M) (Qg G kd ad n MO none) 0 0 (AS kd ad n) := by
  refine g_body (own := RX6) (by decide) rfl ?_ (Nat.le_of_ble_eq_true rfl)
  intro p e s m args below meth c C _ H locs ls hI hl
  obtain ⟨hx, hb, hml, hr, hown, hts, hlk, hK, hap, hsx⟩ := id C
  have hl : lv_has ls 2 [(0, .int x0), (1, .int x1)] := hl
  unfold mX6_requireChoice at hf
  refine lv_iload_n hx hb (dc tbX6_requireChoice_k 0 rfl) rfl (lv_at hl 0 rfl) ?_
  refine lv_if_lt (tgt := 9) hx hb (dc tbX6_requireChoice_k 1 rfl) rfl (fun c1 => ?_) (fun c1 => ?_)
  · have hf := ite_t c1 hf
    exact tX6_requireChoice_nt_b9 C  M hf _ _ _ hI (lv_sub hl [] rfl)
  · have hf := ite_f c1 hf
    refine lv_iload_n hx hb (dc tbX6_requireChoice_k 2 rfl) rfl (lv_at hl 0 rfl) ?_
    refine lv_iload_n hx hb (dc tbX6_requireChoice_k 3 rfl) rfl (lv_at hl 1 rfl) ?_
    refine lv_icmp_le (tgt := 20) hx hb (dc tbX6_requireChoice_k 4 rfl) rfl (fun c2 => ?_) (fun c2 => ?_)
    · have hf := ite_t c2 hf
      cases hf
      exact g_vret hx hb hr hlk hI (dc tbX6_requireChoice_k 10 rfl)
    · have hf := ite_f c2 hf
      exact tX6_requireChoice_nt_b9 C  M hf _ _ _ hI (lv_sub hl [] rfl)
set_option maxHeartbeats 4000000 in
set_option maxRecDepth 100000 in
theorem tX6_finishedCorner_nt (l : Launch) {G : GT} {kd : Nat → Nat × Nat} {ad : Nat → Nat} {k0 : Nat} (hk0 : kRoot kd k0) {x1 : Int32} {x2 : Int32} {M : Mem} {MO : Mem} {vo : Int32} (hf : mX6_finishedCorner k0 x1 x2 M = some (MO, Sum.inl vo)) (n : Nat) : Met l yX6_finishedCorner (Cond.code yX6_finishedCorner cX6_finishedCorner 3 (some .int) :: WA) (rmO 3 0 0) (Pg G kd ad n [.ref (ad k0), .int x1, .int x2] M) (Qg G kd ad n MO (some (.int vo))) 0 0 (AS kd ad n) := by
  refine g_body (own := RX6) (by decide) rfl ?_ (Nat.le_of_ble_eq_true rfl)
  intro p e s m args below meth c C _ H locs ls hI hl
  obtain ⟨hx, hb, hml, hr, hown, hts, hlk, hK, hap, hsx⟩ := id C
  have hl : lv_has ls 3 [(0, .ref (ad k0)), (1, .int x1), (2, .int x2)] := hl
  unfold mX6_finishedCorner at hf
  refine lv_aload_n hx hb (dc tbX6_finishedCorner_k 0 rfl) rfl (lv_at hl 0 rfl) ?_
  refine lv_iload_n hx hb (dc tbX6_finishedCorner_k 1 rfl) rfl (lv_at hl 1 rfl) ?_
  obtain ⟨M3, r2, q1, hf⟩ := calx_n hf
  refine g_callVv hx hb hml hown hts hK hap hsx hI (tX6_requireLeg_nt l hk0 q1 H.size) cv_X6_requireLeg q_t5_31 rfl rfl ⟨Nat.le_of_ble_eq_true rfl, Nat.le_of_ble_eq_true rfl⟩ hk0.1 (by simp) rfl rfl rfl hl.1 rfl (Nat.le_of_ble_eq_true rfl) (dc tbX6_finishedCorner_k 2 rfl) ⟨Nat.le_of_ble_eq_true rfl, Nat.le_of_ble_eq_true rfl⟩ (fun H locs hI => ?_)
  refine lv_iload_n hx hb (dc tbX6_finishedCorner_k 3 rfl) rfl (lv_at hl 2 rfl) ?_
  refine lv_iconst (v := 1) hx hb (dc tbX6_finishedCorner_k 4 rfl) ic_1 ?_
  obtain ⟨M6, r5, q4, hf⟩ := calx_n hf
  refine g_callSv hx hb hml hown hts hK hap hsx hI (tX6_requireChoice_nt l  q4 H.size) cs_X6_requireChoice q_t4_176 rfl rfl ⟨Nat.le_of_ble_eq_true rfl, Nat.le_of_ble_eq_true rfl⟩ rfl hl.1 rfl (Nat.le_of_ble_eq_true rfl) (dc tbX6_finishedCorner_k 5 rfl) ⟨Nat.le_of_ble_eq_true rfl, Nat.le_of_ble_eq_true rfl⟩ (fun H locs hI => ?_)
  refine lv_aload_n hx hb (dc tbX6_finishedCorner_k 6 rfl) rfl (lv_at hl 0 rfl) ?_
  refine gg6_6 hx hb hts hown hK hI hk0.1 q_t2_68 (dc tbX6_finishedCorner_k 7 rfl) ?_
  refine lv_aload_n hx hb (dc tbX6_finishedCorner_k 8 rfl) rfl (lv_at hl 0 rfl) ?_
  refine gg6_3 hx hb hts hown hK hI hk0.1 q_t2_65 (dc tbX6_finishedCorner_k 9 rfl) ?_
  obtain ⟨M9, r8, q7, hf⟩ := cal_s hf
  refine g_callVv hx hb hml hown hts hK hap hsx hI (tX2_layFinished l hk0.2.2.2.2.2.2.1 hk0.2.2.2.1 q7 H.size) cv_X2_layFinished q_t5_54 rfl rfl ⟨Nat.le_of_ble_eq_true rfl, Nat.le_of_ble_eq_true rfl⟩ hk0.2.2.2.2.2.2.1.1 (by simp) rfl rfl rfl hl.1 rfl (Nat.le_of_ble_eq_true rfl) (dc tbX6_finishedCorner_k 10 rfl) ⟨Nat.le_of_ble_eq_true rfl, Nat.le_of_ble_eq_true rfl⟩ (fun H locs hI => ?_)
  refine lv_iload_n hx hb (dc tbX6_finishedCorner_k 11 rfl) rfl (lv_at hl 2 rfl) ?_
  refine lv_if_ne (tgt := 37) hx hb (dc tbX6_finishedCorner_k 12 rfl) rfl (fun c10 => ?_) (fun c10 => ?_)
  · have hf := ite_f c10 hf
    refine lv_aload_n hx hb (dc tbX6_finishedCorner_k 19 rfl) rfl (lv_at hl 0 rfl) ?_
    refine gg6_6 hx hb hts hown hK hI hk0.1 q_t2_68 (dc tbX6_finishedCorner_k 20 rfl) ?_
    refine gg2_1 hx hb hts hown hK hI hk0.2.2.2.2.2.2.1.1 q_t1_188 (dc tbX6_finishedCorner_k 21 rfl) ?_
    refine lv_iload_n hx hb (dc tbX6_finishedCorner_k 22 rfl) rfl (lv_at hl 1 rfl) ?_
    obtain ⟨h11, hf⟩ := chk_s hf
    refine g_iald hx hb hK hI hk0.2.2.2.2.2.2.1.2.2.1 (okb_in h11) (dc tbX6_finishedCorner_k 23 rfl) ?_
    cases hf
    exact g_iret hx hb hr hlk hI (dc tbX6_finishedCorner_k 24 rfl)
  · have hf := ite_t c10 hf
    refine lv_aload_n hx hb (dc tbX6_finishedCorner_k 13 rfl) rfl (lv_at hl 0 rfl) ?_
    refine gg6_6 hx hb hts hown hK hI hk0.1 q_t2_68 (dc tbX6_finishedCorner_k 14 rfl) ?_
    refine gg2_0 hx hb hts hown hK hI hk0.2.2.2.2.2.2.1.1 q_t1_186 (dc tbX6_finishedCorner_k 15 rfl) ?_
    refine lv_iload_n hx hb (dc tbX6_finishedCorner_k 16 rfl) rfl (lv_at hl 1 rfl) ?_
    obtain ⟨h12, hf⟩ := chk_s hf
    refine g_iald hx hb hK hI hk0.2.2.2.2.2.2.1.2.1 (okb_in h12) (dc tbX6_finishedCorner_k 17 rfl) ?_
    refine lv_goto (tgt := 46) hx hb (dc tbX6_finishedCorner_k 18 rfl) rfl ?_
    cases hf
    exact g_iret hx hb hr hlk hI (dc tbX6_finishedCorner_k 24 rfl)
set_option maxHeartbeats 4000000 in
set_option maxRecDepth 100000 in
theorem tX6_requireStep_nt (l : Launch) {G : GT} {kd : Nat → Nat × Nat} {ad : Nat → Nat} {k0 : Nat} (hk0 : kRoot kd k0) {x1 : Int32} {x2 : Int32} {M : Mem} {MO : Mem} {vo : Unit} (hf : mX6_requireStep k0 x1 x2 M = some (MO, Sum.inl vo)) (n : Nat) : Met l yX6_requireStep (Cond.code yX6_requireStep cX6_requireStep 3 none :: WA) (rmO 2 0 0) (Pg G kd ad n [.ref (ad k0), .int x1, .int x2] M) (Qg G kd ad n MO none) 0 0 (AS kd ad n) := by
  refine g_body (own := RX6) (by decide) rfl ?_ (Nat.le_of_ble_eq_true rfl)
  intro p e s m args below meth c C _ H locs ls hI hl
  obtain ⟨hx, hb, hml, hr, hown, hts, hlk, hK, hap, hsx⟩ := id C
  have hl : lv_has ls 3 [(0, .ref (ad k0)), (1, .int x1), (2, .int x2)] := hl
  unfold mX6_requireStep at hf
  refine lv_aload_n hx hb (dc tbX6_requireStep_k 0 rfl) rfl (lv_at hl 0 rfl) ?_
  refine lv_iload_n hx hb (dc tbX6_requireStep_k 1 rfl) rfl (lv_at hl 1 rfl) ?_
  obtain ⟨M3, r2, q1, hf⟩ := calx_n hf
  refine g_callVv hx hb hml hown hts hK hap hsx hI (tX6_requireBend_nt l hk0 q1 H.size) cv_X6_requireBend q_t2_102 rfl rfl ⟨Nat.le_of_ble_eq_true rfl, Nat.le_of_ble_eq_true rfl⟩ hk0.1 (by simp) rfl rfl rfl hl.1 rfl (Nat.le_of_ble_eq_true rfl) (dc tbX6_requireStep_k 2 rfl) ⟨Nat.le_of_ble_eq_true rfl, Nat.le_of_ble_eq_true rfl⟩ (fun H locs hI => ?_)
  refine lv_iload_n hx hb (dc tbX6_requireStep_k 3 rfl) rfl (lv_at hl 2 rfl) ?_
  refine lv_iconst (v := 1) hx hb (dc tbX6_requireStep_k 4 rfl) ic_1 ?_
  obtain ⟨M6, r5, q4, hf⟩ := calx_n hf
  refine g_callSv hx hb hml hown hts hK hap hsx hI (tX6_requireChoice_nt l  q4 H.size) cs_X6_requireChoice q_t4_176 rfl rfl ⟨Nat.le_of_ble_eq_true rfl, Nat.le_of_ble_eq_true rfl⟩ rfl hl.1 rfl (Nat.le_of_ble_eq_true rfl) (dc tbX6_requireStep_k 5 rfl) ⟨Nat.le_of_ble_eq_true rfl, Nat.le_of_ble_eq_true rfl⟩ (fun H locs hI => ?_)
  cases hf
  exact g_vret hx hb hr hlk hI (dc tbX6_requireStep_k 6 rfl)
set_option maxHeartbeats 4000000 in
set_option maxRecDepth 100000 in
theorem tX6_reason_nt (l : Launch) {G : GT} {kd : Nat → Nat × Nat} {ad : Nat → Nat} {k0 : Nat} (hk0 : kRoot kd k0) {x1 : Int32} {x2 : Int32} {M : Mem} {MO : Mem} {vo : Int32} (hf : mX6_reason k0 x1 x2 M = some (MO, Sum.inl vo)) (n : Nat) : Met l yX6_reason (Cond.code yX6_reason cX6_reason 3 (some .int) :: WA) (rmO 4 0 0) (Pg G kd ad n [.ref (ad k0), .int x1, .int x2] M) (Qg G kd ad n MO (some (.int vo))) 0 0 (AS kd ad n) := by
  refine g_body (own := RX6) (by decide) rfl ?_ (Nat.le_of_ble_eq_true rfl)
  intro p e s m args below meth c C _ H locs ls hI hl
  obtain ⟨hx, hb, hml, hr, hown, hts, hlk, hK, hap, hsx⟩ := id C
  have hl : lv_has ls 3 [(0, .ref (ad k0)), (1, .int x1), (2, .int x2)] := hl
  unfold mX6_reason at hf
  refine lv_aload_n hx hb (dc tbX6_reason_k 0 rfl) rfl (lv_at hl 0 rfl) ?_
  refine lv_iload_n hx hb (dc tbX6_reason_k 1 rfl) rfl (lv_at hl 1 rfl) ?_
  refine lv_iload_n hx hb (dc tbX6_reason_k 2 rfl) rfl (lv_at hl 2 rfl) ?_
  obtain ⟨M3, r2, q1, hf⟩ := calx_n hf
  refine g_callVv hx hb hml hown hts hK hap hsx hI (tX6_requireStep_nt l hk0 q1 H.size) cv_X6_requireStep q_t4_172 rfl rfl ⟨Nat.le_of_ble_eq_true rfl, Nat.le_of_ble_eq_true rfl⟩ hk0.1 (by simp) rfl rfl rfl hl.1 rfl (Nat.le_of_ble_eq_true rfl) (dc tbX6_reason_k 3 rfl) ⟨Nat.le_of_ble_eq_true rfl, Nat.le_of_ble_eq_true rfl⟩ (fun H locs hI => ?_)
  refine lv_aload_n hx hb (dc tbX6_reason_k 4 rfl) rfl (lv_at hl 0 rfl) ?_
  refine lv_iconst (v := 2) hx hb (dc tbX6_reason_k 5 rfl) ic_2 ?_
  refine lv_iload_n hx hb (dc tbX6_reason_k 6 rfl) rfl (lv_at hl 1 rfl) ?_
  refine lv_imul hx hb (dc tbX6_reason_k 7 rfl) ?_
  refine lv_iload_n hx hb (dc tbX6_reason_k 8 rfl) rfl (lv_at hl 2 rfl) ?_
  refine lv_iadd hx hb (dc tbX6_reason_k 9 rfl) ?_
  obtain ⟨M6, r5, q4, hf⟩ := cal_s hf
  refine g_callVi hx hb hml hown hts hK hap hsx hI (tX6_reasonNow l hk0 q4 H.size) cv_X6_reasonNow q_t4_227 rfl rfl ⟨Nat.le_of_ble_eq_true rfl, Nat.le_of_ble_eq_true rfl⟩ hk0.1 (by simp) rfl rfl rfl hl.1 rfl (Nat.le_of_ble_eq_true rfl) (dc tbX6_reason_k 10 rfl) ⟨Nat.le_of_ble_eq_true rfl, Nat.le_of_ble_eq_true rfl⟩ (fun H locs hI => ?_)
  cases hf
  exact g_iret hx hb hr hlk hI (dc tbX6_reason_k 11 rfl)
set_option maxHeartbeats 4000000 in
set_option maxRecDepth 100000 in
theorem tX6_gauge_nt (l : Launch) {G : GT} {kd : Nat → Nat × Nat} {ad : Nat → Nat} {k0 : Nat} (hk0 : kRoot kd k0) {x1 : Int32} {x2 : Int32} {M : Mem} {MO : Mem} {vo : Int32} (hf : mX6_gauge k0 x1 x2 M = some (MO, Sum.inl vo)) (n : Nat) : Met l yX6_gauge (Cond.code yX6_gauge cX6_gauge 3 (some .int) :: WA) (rmO 3 0 0) (Pg G kd ad n [.ref (ad k0), .int x1, .int x2] M) (Qg G kd ad n MO (some (.int vo))) 0 0 (AS kd ad n) := by
  refine g_body (own := RX6) (by decide) rfl ?_ (Nat.le_of_ble_eq_true rfl)
  intro p e s m args below meth c C _ H locs ls hI hl
  obtain ⟨hx, hb, hml, hr, hown, hts, hlk, hK, hap, hsx⟩ := id C
  have hl : lv_has ls 3 [(0, .ref (ad k0)), (1, .int x1), (2, .int x2)] := hl
  unfold mX6_gauge at hf
  refine lv_aload_n hx hb (dc tbX6_gauge_k 0 rfl) rfl (lv_at hl 0 rfl) ?_
  refine lv_iload_n hx hb (dc tbX6_gauge_k 1 rfl) rfl (lv_at hl 1 rfl) ?_
  refine lv_iload_n hx hb (dc tbX6_gauge_k 2 rfl) rfl (lv_at hl 2 rfl) ?_
  obtain ⟨M3, r2, q1, hf⟩ := calx_n hf
  refine g_callVv hx hb hml hown hts hK hap hsx hI (tX6_requireStep_nt l hk0 q1 H.size) cv_X6_requireStep q_t4_172 rfl rfl ⟨Nat.le_of_ble_eq_true rfl, Nat.le_of_ble_eq_true rfl⟩ hk0.1 (by simp) rfl rfl rfl hl.1 rfl (Nat.le_of_ble_eq_true rfl) (dc tbX6_gauge_k 3 rfl) ⟨Nat.le_of_ble_eq_true rfl, Nat.le_of_ble_eq_true rfl⟩ (fun H locs hI => ?_)
  refine lv_aload_n hx hb (dc tbX6_gauge_k 4 rfl) rfl (lv_at hl 0 rfl) ?_
  refine lv_iconst (v := 2) hx hb (dc tbX6_gauge_k 5 rfl) ic_2 ?_
  refine lv_iload_n hx hb (dc tbX6_gauge_k 6 rfl) rfl (lv_at hl 1 rfl) ?_
  refine lv_imul hx hb (dc tbX6_gauge_k 7 rfl) ?_
  refine lv_iload_n hx hb (dc tbX6_gauge_k 8 rfl) rfl (lv_at hl 2 rfl) ?_
  refine lv_iadd hx hb (dc tbX6_gauge_k 9 rfl) ?_
  obtain ⟨M6, r5, q4, hf⟩ := cal_s hf
  refine g_callVi hx hb hml hown hts hK hap hsx hI (tX6_gaugeNow l hk0 q4 H.size) cv_X6_gaugeNow q_t4_180 rfl rfl ⟨Nat.le_of_ble_eq_true rfl, Nat.le_of_ble_eq_true rfl⟩ hk0.1 (by simp) rfl rfl rfl hl.1 rfl (Nat.le_of_ble_eq_true rfl) (dc tbX6_gauge_k 10 rfl) ⟨Nat.le_of_ble_eq_true rfl, Nat.le_of_ble_eq_true rfl⟩ (fun H locs hI => ?_)
  cases hf
  exact g_iret hx hb hr hlk hI (dc tbX6_gauge_k 11 rfl)
set_option maxHeartbeats 4000000 in
set_option maxRecDepth 100000 in
theorem tX6_corner_nt (l : Launch) {G : GT} {kd : Nat → Nat × Nat} {ad : Nat → Nat} {k0 : Nat} (hk0 : kRoot kd k0) {x1 : Int32} {x2 : Int32} {x3 : Int32} {x4 : Int32} {M : Mem} {MO : Mem} {vo : Int32} (hf : mX6_corner k0 x1 x2 x3 x4 M = some (MO, Sum.inl vo)) (n : Nat) : Met l yX6_corner (Cond.code yX6_corner cX6_corner 5 (some .int) :: WA) (rmO 2 0 0) (Pg G kd ad n [.ref (ad k0), .int x1, .int x2, .int x3, .int x4] M) (Qg G kd ad n MO (some (.int vo))) 0 0 (AS kd ad n) := by
  refine g_body (own := RX6) (by decide) rfl ?_ (Nat.le_of_ble_eq_true rfl)
  intro p e s m args below meth c C _ H locs ls hI hl
  obtain ⟨hx, hb, hml, hr, hown, hts, hlk, hK, hap, hsx⟩ := id C
  have hl : lv_has ls 5 [(0, .ref (ad k0)), (1, .int x1), (2, .int x2), (3, .int x3), (4, .int x4)] := hl
  unfold mX6_corner at hf
  refine lv_aload_n hx hb (dc tbX6_corner_k 0 rfl) rfl (lv_at hl 0 rfl) ?_
  refine lv_iload_n hx hb (dc tbX6_corner_k 1 rfl) rfl (lv_at hl 1 rfl) ?_
  obtain ⟨M3, r2, q1, hf⟩ := calx_n hf
  refine g_callVv hx hb hml hown hts hK hap hsx hI (tX6_requireBend_nt l hk0 q1 H.size) cv_X6_requireBend q_t2_102 rfl rfl ⟨Nat.le_of_ble_eq_true rfl, Nat.le_of_ble_eq_true rfl⟩ hk0.1 (by simp) rfl rfl rfl hl.1 rfl (Nat.le_of_ble_eq_true rfl) (dc tbX6_corner_k 2 rfl) ⟨Nat.le_of_ble_eq_true rfl, Nat.le_of_ble_eq_true rfl⟩ (fun H locs hI => ?_)
  refine lv_aload_n hx hb (dc tbX6_corner_k 3 rfl) rfl (lv_at hl 0 rfl) ?_
  refine lv_iload_n hx hb (dc tbX6_corner_k 4 rfl) rfl (lv_at hl 3 rfl) ?_
  obtain ⟨M6, r5, q4, hf⟩ := calx_n hf
  refine g_callVv hx hb hml hown hts hK hap hsx hI (tX6_requireLeg_nt l hk0 q4 H.size) cv_X6_requireLeg q_t5_31 rfl rfl ⟨Nat.le_of_ble_eq_true rfl, Nat.le_of_ble_eq_true rfl⟩ hk0.1 (by simp) rfl rfl rfl hl.1 rfl (Nat.le_of_ble_eq_true rfl) (dc tbX6_corner_k 5 rfl) ⟨Nat.le_of_ble_eq_true rfl, Nat.le_of_ble_eq_true rfl⟩ (fun H locs hI => ?_)
  refine lv_iload_n hx hb (dc tbX6_corner_k 6 rfl) rfl (lv_at hl 2 rfl) ?_
  refine lv_iconst (v := 1) hx hb (dc tbX6_corner_k 7 rfl) ic_1 ?_
  obtain ⟨M9, r8, q7, hf⟩ := calx_n hf
  refine g_callSv hx hb hml hown hts hK hap hsx hI (tX6_requireChoice_nt l  q7 H.size) cs_X6_requireChoice q_t4_176 rfl rfl ⟨Nat.le_of_ble_eq_true rfl, Nat.le_of_ble_eq_true rfl⟩ rfl hl.1 rfl (Nat.le_of_ble_eq_true rfl) (dc tbX6_corner_k 8 rfl) ⟨Nat.le_of_ble_eq_true rfl, Nat.le_of_ble_eq_true rfl⟩ (fun H locs hI => ?_)
  refine lv_iload hx hb (dc tbX6_corner_k 9 rfl) (lv_at hl 4 rfl) ?_
  refine lv_iconst (v := 1) hx hb (dc tbX6_corner_k 10 rfl) ic_1 ?_
  obtain ⟨M12, r11, q10, hf⟩ := calx_n hf
  refine g_callSv hx hb hml hown hts hK hap hsx hI (tX6_requireChoice_nt l  q10 H.size) cs_X6_requireChoice q_t4_176 rfl rfl ⟨Nat.le_of_ble_eq_true rfl, Nat.le_of_ble_eq_true rfl⟩ rfl hl.1 rfl (Nat.le_of_ble_eq_true rfl) (dc tbX6_corner_k 11 rfl) ⟨Nat.le_of_ble_eq_true rfl, Nat.le_of_ble_eq_true rfl⟩ (fun H locs hI => ?_)
  refine lv_aload_n hx hb (dc tbX6_corner_k 12 rfl) rfl (lv_at hl 0 rfl) ?_
  refine gg6_6 hx hb hts hown hK hI hk0.1 q_t2_68 (dc tbX6_corner_k 13 rfl) ?_
  refine lv_aload_n hx hb (dc tbX6_corner_k 14 rfl) rfl (lv_at hl 0 rfl) ?_
  refine gg6_3 hx hb hts hown hK hI hk0.1 q_t2_65 (dc tbX6_corner_k 15 rfl) ?_
  refine lv_aload_n hx hb (dc tbX6_corner_k 16 rfl) rfl (lv_at hl 0 rfl) ?_
  refine gg6_3 hx hb hts hown hK hI hk0.1 q_t2_65 (dc tbX6_corner_k 17 rfl) ?_
  refine gg1_13 hx hb hts hown hK hI hk0.2.2.2.1.1 q_t1_118 (dc tbX6_corner_k 18 rfl) ?_
  refine lv_iconst (v := 2) hx hb (dc tbX6_corner_k 19 rfl) ic_2 ?_
  refine lv_iload_n hx hb (dc tbX6_corner_k 20 rfl) rfl (lv_at hl 1 rfl) ?_
  refine lv_imul hx hb (dc tbX6_corner_k 21 rfl) ?_
  refine lv_iload_n hx hb (dc tbX6_corner_k 22 rfl) rfl (lv_at hl 2 rfl) ?_
  refine lv_iadd hx hb (dc tbX6_corner_k 23 rfl) ?_
  obtain ⟨M15, r14, q13, hf⟩ := cal_s hf
  refine g_callVv hx hb hml hown hts hK hap hsx hI (tX2_layStep l hk0.2.2.2.2.2.2.1 hk0.2.2.2.1 q13 H.size) cv_X2_layStep q_t4_184 rfl rfl ⟨Nat.le_of_ble_eq_true rfl, Nat.le_of_ble_eq_true rfl⟩ hk0.2.2.2.2.2.2.1.1 (by simp) rfl rfl rfl hl.1 rfl (Nat.le_of_ble_eq_true rfl) (dc tbX6_corner_k 24 rfl) ⟨Nat.le_of_ble_eq_true rfl, Nat.le_of_ble_eq_true rfl⟩ (fun H locs hI => ?_)
  refine lv_iload hx hb (dc tbX6_corner_k 25 rfl) (lv_at hl 4 rfl) ?_
  refine lv_if_ne (tgt := 61) hx hb (dc tbX6_corner_k 26 rfl) rfl (fun c16 => ?_) (fun c16 => ?_)
  · have hf := ite_f c16 hf
    refine lv_aload_n hx hb (dc tbX6_corner_k 33 rfl) rfl (lv_at hl 0 rfl) ?_
    refine gg6_6 hx hb hts hown hK hI hk0.1 q_t2_68 (dc tbX6_corner_k 34 rfl) ?_
    refine gg2_1 hx hb hts hown hK hI hk0.2.2.2.2.2.2.1.1 q_t1_188 (dc tbX6_corner_k 35 rfl) ?_
    refine lv_iload_n hx hb (dc tbX6_corner_k 36 rfl) rfl (lv_at hl 3 rfl) ?_
    obtain ⟨h17, hf⟩ := chk_s hf
    refine g_iald hx hb hK hI hk0.2.2.2.2.2.2.1.2.2.1 (okb_in h17) (dc tbX6_corner_k 37 rfl) ?_
    cases hf
    exact g_iret hx hb hr hlk hI (dc tbX6_corner_k 38 rfl)
  · have hf := ite_t c16 hf
    refine lv_aload_n hx hb (dc tbX6_corner_k 27 rfl) rfl (lv_at hl 0 rfl) ?_
    refine gg6_6 hx hb hts hown hK hI hk0.1 q_t2_68 (dc tbX6_corner_k 28 rfl) ?_
    refine gg2_0 hx hb hts hown hK hI hk0.2.2.2.2.2.2.1.1 q_t1_186 (dc tbX6_corner_k 29 rfl) ?_
    refine lv_iload_n hx hb (dc tbX6_corner_k 30 rfl) rfl (lv_at hl 3 rfl) ?_
    obtain ⟨h18, hf⟩ := chk_s hf
    refine g_iald hx hb hK hI hk0.2.2.2.2.2.2.1.2.1 (okb_in h18) (dc tbX6_corner_k 31 rfl) ?_
    refine lv_goto (tgt := 70) hx hb (dc tbX6_corner_k 32 rfl) rfl ?_
    cases hf
    exact g_iret hx hb hr hlk hI (dc tbX6_corner_k 38 rfl)
set_option maxHeartbeats 4000000 in
set_option maxRecDepth 100000 in
theorem tX6_top_nt (l : Launch) {G : GT} {kd : Nat → Nat × Nat} {ad : Nat → Nat} {k0 : Nat} (hk0 : kRoot kd k0) {x1 : Int32} {x2 : Int32} {M : Mem} {MO : Mem} {vo : Int32} (hf : mX6_top k0 x1 x2 M = some (MO, Sum.inl vo)) (n : Nat) : Met l yX6_top (Cond.code yX6_top cX6_top 3 (some .int) :: WA) (rmO 3 0 0) (Pg G kd ad n [.ref (ad k0), .int x1, .int x2] M) (Qg G kd ad n MO (some (.int vo))) 0 0 (AS kd ad n) := by
  refine g_body (own := RX6) (by decide) rfl ?_ (Nat.le_of_ble_eq_true rfl)
  intro p e s m args below meth c C _ H locs ls hI hl
  obtain ⟨hx, hb, hml, hr, hown, hts, hlk, hK, hap, hsx⟩ := id C
  have hl : lv_has ls 3 [(0, .ref (ad k0)), (1, .int x1), (2, .int x2)] := hl
  unfold mX6_top at hf
  refine lv_aload_n hx hb (dc tbX6_top_k 0 rfl) rfl (lv_at hl 0 rfl) ?_
  refine lv_iload_n hx hb (dc tbX6_top_k 1 rfl) rfl (lv_at hl 1 rfl) ?_
  refine lv_iload_n hx hb (dc tbX6_top_k 2 rfl) rfl (lv_at hl 2 rfl) ?_
  obtain ⟨M3, r2, q1, hf⟩ := calx_n hf
  refine g_callVv hx hb hml hown hts hK hap hsx hI (tX6_requireStep_nt l hk0 q1 H.size) cv_X6_requireStep q_t4_172 rfl rfl ⟨Nat.le_of_ble_eq_true rfl, Nat.le_of_ble_eq_true rfl⟩ hk0.1 (by simp) rfl rfl rfl hl.1 rfl (Nat.le_of_ble_eq_true rfl) (dc tbX6_top_k 3 rfl) ⟨Nat.le_of_ble_eq_true rfl, Nat.le_of_ble_eq_true rfl⟩ (fun H locs hI => ?_)
  refine lv_aload_n hx hb (dc tbX6_top_k 4 rfl) rfl (lv_at hl 0 rfl) ?_
  refine gg6_6 hx hb hts hown hK hI hk0.1 q_t2_68 (dc tbX6_top_k 5 rfl) ?_
  refine lv_aload_n hx hb (dc tbX6_top_k 6 rfl) rfl (lv_at hl 0 rfl) ?_
  refine gg6_3 hx hb hts hown hK hI hk0.1 q_t2_65 (dc tbX6_top_k 7 rfl) ?_
  refine lv_aload_n hx hb (dc tbX6_top_k 8 rfl) rfl (lv_at hl 0 rfl) ?_
  refine gg6_3 hx hb hts hown hK hI hk0.1 q_t2_65 (dc tbX6_top_k 9 rfl) ?_
  refine gg1_13 hx hb hts hown hK hI hk0.2.2.2.1.1 q_t1_118 (dc tbX6_top_k 10 rfl) ?_
  refine lv_iconst (v := 2) hx hb (dc tbX6_top_k 11 rfl) ic_2 ?_
  refine lv_iload_n hx hb (dc tbX6_top_k 12 rfl) rfl (lv_at hl 1 rfl) ?_
  refine lv_imul hx hb (dc tbX6_top_k 13 rfl) ?_
  refine lv_iload_n hx hb (dc tbX6_top_k 14 rfl) rfl (lv_at hl 2 rfl) ?_
  refine lv_iadd hx hb (dc tbX6_top_k 15 rfl) ?_
  obtain ⟨M6, r5, q4, hf⟩ := cal_s hf
  refine g_callVv hx hb hml hown hts hK hap hsx hI (tX2_layStep l hk0.2.2.2.2.2.2.1 hk0.2.2.2.1 q4 H.size) cv_X2_layStep q_t4_184 rfl rfl ⟨Nat.le_of_ble_eq_true rfl, Nat.le_of_ble_eq_true rfl⟩ hk0.2.2.2.2.2.2.1.1 (by simp) rfl rfl rfl hl.1 rfl (Nat.le_of_ble_eq_true rfl) (dc tbX6_top_k 16 rfl) ⟨Nat.le_of_ble_eq_true rfl, Nat.le_of_ble_eq_true rfl⟩ (fun H locs hI => ?_)
  refine lv_aload_n hx hb (dc tbX6_top_k 17 rfl) rfl (lv_at hl 0 rfl) ?_
  refine gg6_6 hx hb hts hown hK hI hk0.1 q_t2_68 (dc tbX6_top_k 18 rfl) ?_
  obtain ⟨r8, q7, hf⟩ := cap_s hf
  refine g_callVi hx hb hml hown hts hK hap hsx hI (tX2_topOfFreeSide l hk0.2.2.2.2.2.2.1 q7 H.size) cv_X2_topOfFreeSide q_t4_207 rfl rfl ⟨Nat.le_of_ble_eq_true rfl, Nat.le_of_ble_eq_true rfl⟩ hk0.2.2.2.2.2.2.1.1 (by simp) rfl rfl rfl hl.1 rfl (Nat.le_of_ble_eq_true rfl) (dc tbX6_top_k 19 rfl) ⟨Nat.le_of_ble_eq_true rfl, Nat.le_of_ble_eq_true rfl⟩ (fun H locs hI => ?_)
  cases hf
  exact g_iret hx hb hr hlk hI (dc tbX6_top_k 20 rfl)
set_option maxHeartbeats 4000000 in
set_option maxRecDepth 100000 in
theorem tX6_hitting_nt (l : Launch) {G : GT} {kd : Nat → Nat × Nat} {ad : Nat → Nat} {k0 : Nat} (hk0 : kRoot kd k0) {x1 : Int32} {x2 : Int32} {M : Mem} {MO : Mem} {vo : Int32} (hf : mX6_hitting k0 x1 x2 M = some (MO, Sum.inl vo)) (n : Nat) : Met l yX6_hitting (Cond.code yX6_hitting cX6_hitting 3 (some .int) :: WA) (rmO 3 0 0) (Pg G kd ad n [.ref (ad k0), .int x1, .int x2] M) (Qg G kd ad n MO (some (.int vo))) 0 0 (AS kd ad n) := by
  refine g_body (own := RX6) (by decide) rfl ?_ (Nat.le_of_ble_eq_true rfl)
  intro p e s m args below meth c C _ H locs ls hI hl
  obtain ⟨hx, hb, hml, hr, hown, hts, hlk, hK, hap, hsx⟩ := id C
  have hl : lv_has ls 3 [(0, .ref (ad k0)), (1, .int x1), (2, .int x2)] := hl
  unfold mX6_hitting at hf
  refine lv_aload_n hx hb (dc tbX6_hitting_k 0 rfl) rfl (lv_at hl 0 rfl) ?_
  refine lv_iload_n hx hb (dc tbX6_hitting_k 1 rfl) rfl (lv_at hl 1 rfl) ?_
  refine lv_iload_n hx hb (dc tbX6_hitting_k 2 rfl) rfl (lv_at hl 2 rfl) ?_
  obtain ⟨M3, r2, q1, hf⟩ := calx_n hf
  refine g_callVv hx hb hml hown hts hK hap hsx hI (tX6_requireStep_nt l hk0 q1 H.size) cv_X6_requireStep q_t4_172 rfl rfl ⟨Nat.le_of_ble_eq_true rfl, Nat.le_of_ble_eq_true rfl⟩ hk0.1 (by simp) rfl rfl rfl hl.1 rfl (Nat.le_of_ble_eq_true rfl) (dc tbX6_hitting_k 3 rfl) ⟨Nat.le_of_ble_eq_true rfl, Nat.le_of_ble_eq_true rfl⟩ (fun H locs hI => ?_)
  refine lv_aload_n hx hb (dc tbX6_hitting_k 4 rfl) rfl (lv_at hl 0 rfl) ?_
  refine gg6_6 hx hb hts hown hK hI hk0.1 q_t2_68 (dc tbX6_hitting_k 5 rfl) ?_
  refine lv_aload_n hx hb (dc tbX6_hitting_k 6 rfl) rfl (lv_at hl 0 rfl) ?_
  refine gg6_3 hx hb hts hown hK hI hk0.1 q_t2_65 (dc tbX6_hitting_k 7 rfl) ?_
  refine lv_aload_n hx hb (dc tbX6_hitting_k 8 rfl) rfl (lv_at hl 0 rfl) ?_
  refine gg6_3 hx hb hts hown hK hI hk0.1 q_t2_65 (dc tbX6_hitting_k 9 rfl) ?_
  refine gg1_13 hx hb hts hown hK hI hk0.2.2.2.1.1 q_t1_118 (dc tbX6_hitting_k 10 rfl) ?_
  refine lv_iconst (v := 2) hx hb (dc tbX6_hitting_k 11 rfl) ic_2 ?_
  refine lv_iload_n hx hb (dc tbX6_hitting_k 12 rfl) rfl (lv_at hl 1 rfl) ?_
  refine lv_imul hx hb (dc tbX6_hitting_k 13 rfl) ?_
  refine lv_iload_n hx hb (dc tbX6_hitting_k 14 rfl) rfl (lv_at hl 2 rfl) ?_
  refine lv_iadd hx hb (dc tbX6_hitting_k 15 rfl) ?_
  obtain ⟨M6, r5, q4, hf⟩ := cal_s hf
  refine g_callVv hx hb hml hown hts hK hap hsx hI (tX2_layStep l hk0.2.2.2.2.2.2.1 hk0.2.2.2.1 q4 H.size) cv_X2_layStep q_t4_184 rfl rfl ⟨Nat.le_of_ble_eq_true rfl, Nat.le_of_ble_eq_true rfl⟩ hk0.2.2.2.2.2.2.1.1 (by simp) rfl rfl rfl hl.1 rfl (Nat.le_of_ble_eq_true rfl) (dc tbX6_hitting_k 16 rfl) ⟨Nat.le_of_ble_eq_true rfl, Nat.le_of_ble_eq_true rfl⟩ (fun H locs hI => ?_)
  refine lv_aload_n hx hb (dc tbX6_hitting_k 17 rfl) rfl (lv_at hl 0 rfl) ?_
  refine gg6_6 hx hb hts hown hK hI hk0.1 q_t2_68 (dc tbX6_hitting_k 18 rfl) ?_
  refine lv_aload_n hx hb (dc tbX6_hitting_k 19 rfl) rfl (lv_at hl 0 rfl) ?_
  refine gg6_3 hx hb hts hown hK hI hk0.1 q_t2_65 (dc tbX6_hitting_k 20 rfl) ?_
  obtain ⟨r8, q7, hf⟩ := cap_s hf
  refine g_callVi hx hb hml hown hts hK hap hsx hI (tX2_legsHitting l hk0.2.2.2.2.2.2.1 hk0.2.2.2.1 q7 H.size) cv_X2_legsHitting q_t4_215 rfl rfl ⟨Nat.le_of_ble_eq_true rfl, Nat.le_of_ble_eq_true rfl⟩ hk0.2.2.2.2.2.2.1.1 (by simp) rfl rfl rfl hl.1 rfl (Nat.le_of_ble_eq_true rfl) (dc tbX6_hitting_k 21 rfl) ⟨Nat.le_of_ble_eq_true rfl, Nat.le_of_ble_eq_true rfl⟩ (fun H locs hI => ?_)
  cases hf
  exact g_iret hx hb hr hlk hI (dc tbX6_hitting_k 22 rfl)
set_option maxHeartbeats 4000000 in
set_option maxRecDepth 100000 in
theorem tX6_costOf_nt (l : Launch) {G : GT} {kd : Nat → Nat × Nat} {ad : Nat → Nat} {k0 : Nat} (hk0 : kRoot kd k0) {x1 : Int32} {x2 : Int32} {M : Mem} {MO : Mem} {vo : Int32} (hf : mX6_costOf k0 x1 x2 M = some (MO, Sum.inl vo)) (n : Nat) : Met l yX6_costOf (Cond.code yX6_costOf cX6_costOf 3 (some .int) :: WA) (rmO 4 0 0) (Pg G kd ad n [.ref (ad k0), .int x1, .int x2] M) (Qg G kd ad n MO (some (.int vo))) 0 0 (AS kd ad n) := by
  refine g_body (own := RX6) (by decide) rfl ?_ (Nat.le_of_ble_eq_true rfl)
  intro p e s m args below meth c C _ H locs ls hI hl
  obtain ⟨hx, hb, hml, hr, hown, hts, hlk, hK, hap, hsx⟩ := id C
  have hl : lv_has ls 3 [(0, .ref (ad k0)), (1, .int x1), (2, .int x2)] := hl
  unfold mX6_costOf at hf
  refine lv_aload_n hx hb (dc tbX6_costOf_k 0 rfl) rfl (lv_at hl 0 rfl) ?_
  refine lv_iload_n hx hb (dc tbX6_costOf_k 1 rfl) rfl (lv_at hl 1 rfl) ?_
  refine lv_iload_n hx hb (dc tbX6_costOf_k 2 rfl) rfl (lv_at hl 2 rfl) ?_
  obtain ⟨M3, r2, q1, hf⟩ := calx_n hf
  refine g_callVv hx hb hml hown hts hK hap hsx hI (tX6_requireStep_nt l hk0 q1 H.size) cv_X6_requireStep q_t4_172 rfl rfl ⟨Nat.le_of_ble_eq_true rfl, Nat.le_of_ble_eq_true rfl⟩ hk0.1 (by simp) rfl rfl rfl hl.1 rfl (Nat.le_of_ble_eq_true rfl) (dc tbX6_costOf_k 3 rfl) ⟨Nat.le_of_ble_eq_true rfl, Nat.le_of_ble_eq_true rfl⟩ (fun H locs hI => ?_)
  refine lv_aload_n hx hb (dc tbX6_costOf_k 4 rfl) rfl (lv_at hl 0 rfl) ?_
  refine lv_iconst (v := 2) hx hb (dc tbX6_costOf_k 5 rfl) ic_2 ?_
  refine lv_iload_n hx hb (dc tbX6_costOf_k 6 rfl) rfl (lv_at hl 1 rfl) ?_
  refine lv_imul hx hb (dc tbX6_costOf_k 7 rfl) ?_
  refine lv_iload_n hx hb (dc tbX6_costOf_k 8 rfl) rfl (lv_at hl 2 rfl) ?_
  refine lv_iadd hx hb (dc tbX6_costOf_k 9 rfl) ?_
  obtain ⟨M6, r5, q4, hf⟩ := cal_s hf
  refine g_callVi hx hb hml hown hts hK hap hsx hI (tX6_costNow l hk0 q4 H.size) cv_X6_costNow q_t5_10 rfl rfl ⟨Nat.le_of_ble_eq_true rfl, Nat.le_of_ble_eq_true rfl⟩ hk0.1 (by simp) rfl rfl rfl hl.1 rfl (Nat.le_of_ble_eq_true rfl) (dc tbX6_costOf_k 10 rfl) ⟨Nat.le_of_ble_eq_true rfl, Nat.le_of_ble_eq_true rfl⟩ (fun H locs hI => ?_)
  cases hf
  exact g_iret hx hb hr hlk hI (dc tbX6_costOf_k 11 rfl)
set_option maxHeartbeats 4000000 in
set_option maxRecDepth 100000 in
theorem tX6_fold_nt (l : Launch) {G : GT} {kd : Nat → Nat × Nat} {ad : Nat → Nat} {k0 : Nat} (hk0 : kRoot kd k0) {x1 : Int32} {x2 : Int32} {M : Mem} {MO : Mem} {vo : Int32} (hf : mX6_fold k0 x1 x2 M = some (MO, Sum.inl vo)) (n : Nat) : Met l yX6_fold (Cond.code yX6_fold cX6_fold 3 (some .int) :: WA) (rmO 5 0 0) (Pg G kd ad n [.ref (ad k0), .int x1, .int x2] M) (Qg G kd ad n MO (some (.int vo))) 0 0 (AS kd ad n) := by
  refine g_body (own := RX6) (by decide) rfl ?_ (Nat.le_of_ble_eq_true rfl)
  intro p e s m args below meth c C _ H locs ls hI hl
  obtain ⟨hx, hb, hml, hr, hown, hts, hlk, hK, hap, hsx⟩ := id C
  have hl : lv_has ls 3 [(0, .ref (ad k0)), (1, .int x1), (2, .int x2)] := hl
  unfold mX6_fold at hf
  refine lv_aload_n hx hb (dc tbX6_fold_k 0 rfl) rfl (lv_at hl 0 rfl) ?_
  refine lv_iload_n hx hb (dc tbX6_fold_k 1 rfl) rfl (lv_at hl 1 rfl) ?_
  refine lv_iload_n hx hb (dc tbX6_fold_k 2 rfl) rfl (lv_at hl 2 rfl) ?_
  obtain ⟨M3, r2, q1, hf⟩ := calx_n hf
  refine g_callVv hx hb hml hown hts hK hap hsx hI (tX6_requireStep_nt l hk0 q1 H.size) cv_X6_requireStep q_t4_172 rfl rfl ⟨Nat.le_of_ble_eq_true rfl, Nat.le_of_ble_eq_true rfl⟩ hk0.1 (by simp) rfl rfl rfl hl.1 rfl (Nat.le_of_ble_eq_true rfl) (dc tbX6_fold_k 3 rfl) ⟨Nat.le_of_ble_eq_true rfl, Nat.le_of_ble_eq_true rfl⟩ (fun H locs hI => ?_)
  refine lv_aload_n hx hb (dc tbX6_fold_k 4 rfl) rfl (lv_at hl 0 rfl) ?_
  refine lv_iconst (v := 2) hx hb (dc tbX6_fold_k 5 rfl) ic_2 ?_
  refine lv_iload_n hx hb (dc tbX6_fold_k 6 rfl) rfl (lv_at hl 1 rfl) ?_
  refine lv_imul hx hb (dc tbX6_fold_k 7 rfl) ?_
  refine lv_iload_n hx hb (dc tbX6_fold_k 8 rfl) rfl (lv_at hl 2 rfl) ?_
  refine lv_iadd hx hb (dc tbX6_fold_k 9 rfl) ?_
  obtain ⟨M6, r5, q4, hf⟩ := cal_s hf
  refine g_callVi hx hb hml hown hts hK hap hsx hI (tX6_reasonNow l hk0 q4 H.size) cv_X6_reasonNow q_t4_227 rfl rfl ⟨Nat.le_of_ble_eq_true rfl, Nat.le_of_ble_eq_true rfl⟩ hk0.1 (by simp) rfl rfl rfl hl.1 rfl (Nat.le_of_ble_eq_true rfl) (dc tbX6_fold_k 10 rfl) ⟨Nat.le_of_ble_eq_true rfl, Nat.le_of_ble_eq_true rfl⟩ (fun H locs hI => ?_)
  refine lv_if_eq (tgt := 29) hx hb (dc tbX6_fold_k 11 rfl) rfl (fun c7 => ?_) (fun c7 => ?_)
  · have hf := ite_t c7 hf
    refine lv_aload_n hx hb (dc tbX6_fold_k 17 rfl) rfl (lv_at hl 0 rfl) ?_
    refine lv_iconst (v := 2) hx hb (dc tbX6_fold_k 18 rfl) ic_2 ?_
    refine lv_iload_n hx hb (dc tbX6_fold_k 19 rfl) rfl (lv_at hl 1 rfl) ?_
    refine lv_imul hx hb (dc tbX6_fold_k 20 rfl) ?_
    refine lv_iload_n hx hb (dc tbX6_fold_k 21 rfl) rfl (lv_at hl 2 rfl) ?_
    refine lv_iadd hx hb (dc tbX6_fold_k 22 rfl) ?_
    obtain ⟨M10, r9, q8, hf⟩ := cal_s hf
    refine g_callVi hx hb hml hown hts hK hap hsx hI (tX6_makeStep l hk0 q8 H.size) cv_X6_makeStep q_t5_95 rfl rfl ⟨Nat.le_of_ble_eq_true rfl, Nat.le_of_ble_eq_true rfl⟩ hk0.1 (by simp) rfl rfl rfl hl.1 rfl (Nat.le_of_ble_eq_true rfl) (dc tbX6_fold_k 23 rfl) ⟨Nat.le_of_ble_eq_true rfl, Nat.le_of_ble_eq_true rfl⟩ (fun H locs hI => ?_)
    cases hf
    exact g_iret hx hb hr hlk hI (dc tbX6_fold_k 24 rfl)
  · have hf := ite_f c7 hf
    cases hf
