def mX0_forgetAll (k0 : Nat) (M : Mem) : Option (Mem × Unit) := bnd (wr M k0 2 (0 : Int32)) (fun M1 => some (M1, ()))
set_option maxHeartbeats 4000000 in
set_option maxRecDepth 100000 in
theorem tX0_forgetAll (l : Launch) {G : GT} {kd : Nat → Nat × Nat} {ad : Nat → Nat} {k0 : Nat} (hk0 : kHist kd k0) {M : Mem} {MO : Mem} {vo : Unit} (hf : mX0_forgetAll k0 M = some (MO, vo)) (n : Nat) : Met l yX0_forgetAll (Cond.code yX0_forgetAll cX0_forgetAll 1 none :: WA) (rmO 0 0 0) (Pg G kd ad n [.ref (ad k0)] M) (Qg G kd ad n MO none) 0 0 (AS kd ad n) := by
  refine g_body (own := RX0) (by decide) rfl ?_ (Nat.le_of_ble_eq_true rfl)
  intro p e s m args below meth c C _ H locs ls hI hl
  obtain ⟨hx, hb, hml, hr, hown, hts, hlk, hK, hap, hsx⟩ := id C
  have hl : lv_has ls 1 [(0, .ref (ad k0))] := hl
  unfold mX0_forgetAll at hf
  refine lv_aload_n hx hb (dc tbX0_forgetAll_k 0 rfl) rfl (lv_at hl 0 rfl) ?_
  refine lv_iconst (v := 0) hx hb (dc tbX0_forgetAll_k 1 rfl) ic_0 ?_
  obtain ⟨M1, e2, hf⟩ := bnd_s hf
  refine gp0_2 hx hb hts hown hK hap hI hk0.1 q_t1_185 (dc tbX0_forgetAll_k 2 rfl) e2 (fun H locs hI => ?_)
  cases hf
  exact g_vret hx hb hr hlk hI (dc tbX0_forgetAll_k 3 rfl)
theorem cv_X0_forgetAll : cvF RX0 yX0_forgetAll cX0_forgetAll 1 none 0 := ⟨q_t6_4, q_t6_5, q_t1_4, q_t6_6, by decide +kernel⟩
def mX0_remember_b32 (k0 : Nat) (k1 : Nat) (M : Mem) : Option (Mem × Unit) := chk (okb (((rd M k0 1) + (rd M k0 2)) - ((rd M k0 1) + (rd M k0 2)) / (10 : Int32) * (10 : Int32)) 10) (cal (mX1_copyFrom ((k0 + 1) + 1 + 8 * ((((rd M k0 1) + (rd M k0 2)) - ((rd M k0 1) + (rd M k0 2)) / (10 : Int32) * (10 : Int32))).toNatClampNeg) k1 M) (fun M5 _ => bnd (wr M5 k0 2 ((rd M5 k0 2) + (1 : Int32))) (fun M6 => some (M6, ()))))
set_option maxHeartbeats 4000000 in
set_option maxRecDepth 100000 in
theorem tX0_remember_b32 {p : Program} {l : Launch} {e : Env} {s : State} {m : MethodId} {args : Array Value} {below : List Frame} {meth : Method} {c : Code} {G : GT} {kd : Nat → Nat × Nat} {ad : Nat → Nat} (C : Cx p s m args meth c cX0_remember 2 none RX0 G kd ad) {k0 : Nat} {k1 : Nat} (hk0 : kHist kd k0) (hk1 : kPart kd k1) {MO : Mem} {vo : Unit}   : ∀  (M : Mem), mX0_remember_b32 k0 k1 M = some (MO, vo) → At p l e (rmO 2 0 0) s m args below meth c 0 0 (MQ below (Qg G kd ad s.heap.size MO none) args s 0 0 (AS kd ad s.heap.size)) G kd ad 2 32 [(0, .ref (ad k0)), (1, .ref (ad k1))] [] M := by
  intro M hf H locs ls hI hl
  obtain ⟨hx, hb, hml, hr, hown, hts, hlk, hK, hap, hsx⟩ := id C
  unfold mX0_remember_b32 at hf
  refine lv_aload_n hx hb (dc tbX0_remember_k 18 rfl) rfl (lv_at hl 0 rfl) ?_
  refine gg0_0 hx hb hts hown hK hI hk0.1 q_t1_183 (dc tbX0_remember_k 19 rfl) ?_
  refine lv_aload_n hx hb (dc tbX0_remember_k 20 rfl) rfl (lv_at hl 0 rfl) ?_
  refine gg0_1 hx hb hts hown hK hI hk0.1 q_t1_184 (dc tbX0_remember_k 21 rfl) ?_
  refine lv_aload_n hx hb (dc tbX0_remember_k 22 rfl) rfl (lv_at hl 0 rfl) ?_
  refine gg0_2 hx hb hts hown hK hI hk0.1 q_t1_185 (dc tbX0_remember_k 23 rfl) ?_
  refine lv_iadd hx hb (dc tbX0_remember_k 24 rfl) ?_
  refine lv_bipush (v := 10) hx hb (dc tbX0_remember_k 25 rfl) bp_10 ?_
  refine lv_irem hx hb (dc tbX0_remember_k 26 rfl) (by decide) ?_
  obtain ⟨h2, hf⟩ := chk_s hf
  refine g_aald hx hb hK hI hk0.2.1 (okb_in h2) (dc tbX0_remember_k 27 rfl) ?_
  refine lv_aload_n hx hb (dc tbX0_remember_k 28 rfl) rfl (lv_at hl 1 rfl) ?_
  obtain ⟨M5, r4, q3, hf⟩ := cal_s hf
  refine g_callVv hx hb hml hown hts hK hap hsx hI (tX1_copyFrom l (hk0.2.2 _ (okb_lt h2)) hk1 q3 H.size) cv_X1_copyFrom q_t3_195 rfl rfl ⟨Nat.le_of_ble_eq_true rfl, Nat.le_of_ble_eq_true rfl⟩ (hk0.2.2 _ (okb_lt h2)).1 (by simp) rfl rfl rfl hl.1 rfl (Nat.le_of_ble_eq_true rfl) (dc tbX0_remember_k 29 rfl) ⟨Nat.le_of_ble_eq_true rfl, Nat.le_of_ble_eq_true rfl⟩ (fun H locs hI => ?_)
  refine lv_aload_n hx hb (dc tbX0_remember_k 30 rfl) rfl (lv_at hl 0 rfl) ?_
  refine lv_dup hx hb (dc tbX0_remember_k 31 rfl) rfl ?_
  refine gg0_2 hx hb hts hown hK hI hk0.1 q_t1_185 (dc tbX0_remember_k 32 rfl) ?_
  refine lv_iconst (v := 1) hx hb (dc tbX0_remember_k 33 rfl) ic_1 ?_
  refine lv_iadd hx hb (dc tbX0_remember_k 34 rfl) ?_
  obtain ⟨M6, e7, hf⟩ := bnd_s hf
  refine gp0_2 hx hb hts hown hK hap hI hk0.1 q_t1_185 (dc tbX0_remember_k 35 rfl) e7 (fun H locs hI => ?_)
  cases hf
  exact g_vret hx hb hr hlk hI (dc tbX0_remember_k 36 rfl)
def mX0_remember (k0 : Nat) (k1 : Nat) (M : Mem) : Option (Mem × Unit) := ite2 ((rd M k0 2) = (10 : Int32)) (bnd (wr M k0 1 (((rd M k0 1) + (1 : Int32)) - ((rd M k0 1) + (1 : Int32)) / (10 : Int32) * (10 : Int32))) (fun M8 => bnd (wr M8 k0 2 ((rd M8 k0 2) - (1 : Int32))) (fun M10 => mX0_remember_b32 k0 k1 M10))) (mX0_remember_b32 k0 k1 M)
set_option maxHeartbeats 4000000 in
set_option maxRecDepth 100000 in
theorem tX0_remember (l : Launch) {G : GT} {kd : Nat → Nat × Nat} {ad : Nat → Nat} {k0 : Nat} {k1 : Nat} (hk0 : kHist kd k0) (hk1 : kPart kd k1) {M : Mem} {MO : Mem} {vo : Unit} (hf : mX0_remember k0 k1 M = some (MO, vo)) (n : Nat) : Met l yX0_remember (Cond.code yX0_remember cX0_remember 2 none :: WA) (rmO 2 0 0) (Pg G kd ad n [.ref (ad k0), .ref (ad k1)] M) (Qg G kd ad n MO none) 0 0 (AS kd ad n) := by
  refine g_body (own := RX0) (by decide) rfl ?_ (Nat.le_of_ble_eq_true rfl)
  intro p e s m args below meth c C _ H locs ls hI hl
  obtain ⟨hx, hb, hml, hr, hown, hts, hlk, hK, hap, hsx⟩ := id C
  have hl : lv_has ls 2 [(0, .ref (ad k0)), (1, .ref (ad k1))] := hl
  unfold mX0_remember at hf
  refine lv_aload_n hx hb (dc tbX0_remember_k 0 rfl) rfl (lv_at hl 0 rfl) ?_
  refine gg0_2 hx hb hts hown hK hI hk0.1 q_t1_185 (dc tbX0_remember_k 1 rfl) ?_
  refine lv_bipush (v := 10) hx hb (dc tbX0_remember_k 2 rfl) bp_10 ?_
  refine lv_icmp_ne (tgt := 32) hx hb (dc tbX0_remember_k 3 rfl) rfl (fun c1 => ?_) (fun c1 => ?_)
  · have hf := ite_f c1 hf
    exact tX0_remember_b32 C hk0 hk1 M hf _ _ _ hI (lv_sub hl [0, 1] rfl)
  · have hf := ite_t c1 hf
    refine lv_aload_n hx hb (dc tbX0_remember_k 4 rfl) rfl (lv_at hl 0 rfl) ?_
    refine lv_aload_n hx hb (dc tbX0_remember_k 5 rfl) rfl (lv_at hl 0 rfl) ?_
    refine gg0_1 hx hb hts hown hK hI hk0.1 q_t1_184 (dc tbX0_remember_k 6 rfl) ?_
    refine lv_iconst (v := 1) hx hb (dc tbX0_remember_k 7 rfl) ic_1 ?_
    refine lv_iadd hx hb (dc tbX0_remember_k 8 rfl) ?_
    refine lv_bipush (v := 10) hx hb (dc tbX0_remember_k 9 rfl) bp_10 ?_
    refine lv_irem hx hb (dc tbX0_remember_k 10 rfl) (by decide) ?_
    obtain ⟨M8, e9, hf⟩ := bnd_s hf
    refine gp0_1 hx hb hts hown hK hap hI hk0.1 q_t1_184 (dc tbX0_remember_k 11 rfl) e9 (fun H locs hI => ?_)
    refine lv_aload_n hx hb (dc tbX0_remember_k 12 rfl) rfl (lv_at hl 0 rfl) ?_
    refine lv_dup hx hb (dc tbX0_remember_k 13 rfl) rfl ?_
    refine gg0_2 hx hb hts hown hK hI hk0.1 q_t1_185 (dc tbX0_remember_k 14 rfl) ?_
    refine lv_iconst (v := 1) hx hb (dc tbX0_remember_k 15 rfl) ic_1 ?_
    refine lv_isub hx hb (dc tbX0_remember_k 16 rfl) ?_
    obtain ⟨M10, e11, hf⟩ := bnd_s hf
    refine gp0_2 hx hb hts hown hK hap hI hk0.1 q_t1_185 (dc tbX0_remember_k 17 rfl) e11 (fun H locs hI => ?_)
    exact tX0_remember_b32 C hk0 hk1 M10 hf _ _ _ hI (lv_sub hl [0, 1] rfl)
theorem cv_X0_remember : cvF RX0 yX0_remember cX0_remember 2 none 1 := ⟨q_t3_192, q_t3_193, q_t1_4, q_t3_194, by decide +kernel⟩
def mX0_takeBack (k0 : Nat) (k1 : Nat) (M : Mem) : Option (Mem × Int32) := ite2 ((rd M k0 2) = 0) (some (M, (0 : Int32))) (bnd (wr M k0 2 ((rd M k0 2) - (1 : Int32))) (fun M2 => chk (okb (((rd M2 k0 1) + (rd M2 k0 2)) - ((rd M2 k0 1) + (rd M2 k0 2)) / (10 : Int32) * (10 : Int32)) 10) (cal (mX1_copyFrom k1 ((k0 + 1) + 1 + 8 * ((((rd M2 k0 1) + (rd M2 k0 2)) - ((rd M2 k0 1) + (rd M2 k0 2)) / (10 : Int32) * (10 : Int32))).toNatClampNeg) M2) (fun M7 _ => some (M7, (1 : Int32))))))
set_option maxHeartbeats 4000000 in
set_option maxRecDepth 100000 in
theorem tX0_takeBack (l : Launch) {G : GT} {kd : Nat → Nat × Nat} {ad : Nat → Nat} {k0 : Nat} {k1 : Nat} (hk0 : kHist kd k0) (hk1 : kPart kd k1) {M : Mem} {MO : Mem} {vo : Int32} (hf : mX0_takeBack k0 k1 M = some (MO, vo)) (n : Nat) : Met l yX0_takeBack (Cond.code yX0_takeBack cX0_takeBack 2 (some .boolean) :: WA) (rmO 2 0 0) (Pg G kd ad n [.ref (ad k0), .ref (ad k1)] M) (Qg G kd ad n MO (some (.int vo))) 0 0 (AS kd ad n) := by
  refine g_body (own := RX0) (by decide) rfl ?_ (Nat.le_of_ble_eq_true rfl)
  intro p e s m args below meth c C _ H locs ls hI hl
  obtain ⟨hx, hb, hml, hr, hown, hts, hlk, hK, hap, hsx⟩ := id C
  have hl : lv_has ls 2 [(0, .ref (ad k0)), (1, .ref (ad k1))] := hl
  unfold mX0_takeBack at hf
  refine lv_aload_n hx hb (dc tbX0_takeBack_k 0 rfl) rfl (lv_at hl 0 rfl) ?_
  refine gg0_2 hx hb hts hown hK hI hk0.1 q_t1_185 (dc tbX0_takeBack_k 1 rfl) ?_
  refine lv_if_ne (tgt := 9) hx hb (dc tbX0_takeBack_k 2 rfl) rfl (fun c1 => ?_) (fun c1 => ?_)
  · have hf := ite_f c1 hf
    refine lv_aload_n hx hb (dc tbX0_takeBack_k 5 rfl) rfl (lv_at hl 0 rfl) ?_
    refine lv_dup hx hb (dc tbX0_takeBack_k 6 rfl) rfl ?_
    refine gg0_2 hx hb hts hown hK hI hk0.1 q_t1_185 (dc tbX0_takeBack_k 7 rfl) ?_
    refine lv_iconst (v := 1) hx hb (dc tbX0_takeBack_k 8 rfl) ic_1 ?_
    refine lv_isub hx hb (dc tbX0_takeBack_k 9 rfl) ?_
    obtain ⟨M2, e3, hf⟩ := bnd_s hf
    refine gp0_2 hx hb hts hown hK hap hI hk0.1 q_t1_185 (dc tbX0_takeBack_k 10 rfl) e3 (fun H locs hI => ?_)
    refine lv_aload_n hx hb (dc tbX0_takeBack_k 11 rfl) rfl (lv_at hl 1 rfl) ?_
    refine lv_aload_n hx hb (dc tbX0_takeBack_k 12 rfl) rfl (lv_at hl 0 rfl) ?_
    refine gg0_0 hx hb hts hown hK hI hk0.1 q_t1_183 (dc tbX0_takeBack_k 13 rfl) ?_
    refine lv_aload_n hx hb (dc tbX0_takeBack_k 14 rfl) rfl (lv_at hl 0 rfl) ?_
    refine gg0_1 hx hb hts hown hK hI hk0.1 q_t1_184 (dc tbX0_takeBack_k 15 rfl) ?_
    refine lv_aload_n hx hb (dc tbX0_takeBack_k 16 rfl) rfl (lv_at hl 0 rfl) ?_
    refine gg0_2 hx hb hts hown hK hI hk0.1 q_t1_185 (dc tbX0_takeBack_k 17 rfl) ?_
    refine lv_iadd hx hb (dc tbX0_takeBack_k 18 rfl) ?_
    refine lv_bipush (v := 10) hx hb (dc tbX0_takeBack_k 19 rfl) bp_10 ?_
    refine lv_irem hx hb (dc tbX0_takeBack_k 20 rfl) (by decide) ?_
    obtain ⟨h4, hf⟩ := chk_s hf
    refine g_aald hx hb hK hI hk0.2.1 (okb_in h4) (dc tbX0_takeBack_k 21 rfl) ?_
    obtain ⟨M7, r6, q5, hf⟩ := cal_s hf
    refine g_callVv hx hb hml hown hts hK hap hsx hI (tX1_copyFrom l hk1 (hk0.2.2 _ (okb_lt h4)) q5 H.size) cv_X1_copyFrom q_t3_195 rfl rfl ⟨Nat.le_of_ble_eq_true rfl, Nat.le_of_ble_eq_true rfl⟩ hk1.1 (by simp) rfl rfl rfl hl.1 rfl (Nat.le_of_ble_eq_true rfl) (dc tbX0_takeBack_k 22 rfl) ⟨Nat.le_of_ble_eq_true rfl, Nat.le_of_ble_eq_true rfl⟩ (fun H locs hI => ?_)
    refine lv_iconst (v := 1) hx hb (dc tbX0_takeBack_k 23 rfl) ic_1 ?_
    cases hf
    exact g_zret hx hb hr hlk hI rfl (dc tbX0_takeBack_k 24 rfl)
  · have hf := ite_t c1 hf
    refine lv_iconst (v := 0) hx hb (dc tbX0_takeBack_k 3 rfl) ic_0 ?_
    cases hf
    exact g_zret hx hb hr hlk hI rfl (dc tbX0_takeBack_k 4 rfl)
theorem cv_X0_takeBack : cvF RX0 yX0_takeBack cX0_takeBack 2 (some .boolean) 1 := ⟨q_t3_202, q_t3_203, q_t1_4, q_t3_204, by decide +kernel⟩
