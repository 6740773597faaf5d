def mJ5_isLatin1_aae02 (k0 : Nat) (a0 : Nat) (n0 : Nat) (M : Mem) : Option Int32 := ite2 ((1 : Int32) = 0) (some (0 : Int32)) (ite2 ((rd M k0 1) = 0) (some (1 : Int32)) (some (0 : Int32)))
set_option maxHeartbeats 4000000 in
set_option maxRecDepth 100000 in
theorem tJ5_isLatin1_aae02 (l : Launch) {G : GT} {kd : Nat → Nat × Nat} {ad : Nat → Nat} {k0 : Nat} {a0 : Nat} {n0 : Nat} (hk0 : kSb kd k0 a0 n0) {M : Mem} {vo : Int32} (hf : mJ5_isLatin1_aae02 k0 a0 n0 M = some vo) (n : Nat) : Met l yJ5_isLatin1_aae02 (Cond.code yJ5_isLatin1_aae02 cJ5_isLatin1_aae02 1 (some .boolean) :: WA) (rmO 0 0 0) (Pg G kd ad n [.ref (ad k0)] M) (Qg G kd ad n M (some (.int vo))) 0 0 (AS kd ad n) := by
  refine g_body (own := RJ5) (by decide) rfl ?_ (Nat.le_of_ble_eq_true rfl)
  intro p e s m args below meth c C _ H locs ls hI hl
  obtain ⟨hx, hb, hml, hr, hown, hts, hlk, hK, hap, hsx⟩ := id C
  have hl : lv_has ls 1 [(0, .ref (ad k0))] := hl
  unfold mJ5_isLatin1_aae02 at hf
  refine g_gscs hx hb hown hts hsx hI q_t2_40 (dc tbJ5_isLatin1_aae02_k 0 rfl) ?_
  refine lv_if_eq (tgt := 17) hx hb (dc tbJ5_isLatin1_aae02_k 1 rfl) rfl (fun c1 => ?_) (fun c1 => ?_)
  · have hf := ite_t c1 hf
    refine lv_iconst (v := 0) hx hb (dc tbJ5_isLatin1_aae02_k 7 rfl) ic_0 ?_
    cases hf
    exact g_zret hx hb hr hlk hI rfl (dc tbJ5_isLatin1_aae02_k 8 rfl)
  · have hf := ite_f c1 hf
    refine lv_aload_n hx hb (dc tbJ5_isLatin1_aae02_k 2 rfl) rfl (lv_at hl 0 rfl) ?_
    refine ggSB_1 hx hb hts hown hK hI hk0.1 q_t2_50 (dc tbJ5_isLatin1_aae02_k 3 rfl) ?_
    refine lv_if_ne (tgt := 17) hx hb (dc tbJ5_isLatin1_aae02_k 4 rfl) rfl (fun c2 => ?_) (fun c2 => ?_)
    · have hf := ite_f c2 hf
      refine lv_iconst (v := 0) hx hb (dc tbJ5_isLatin1_aae02_k 7 rfl) ic_0 ?_
      cases hf
      exact g_zret hx hb hr hlk hI rfl (dc tbJ5_isLatin1_aae02_k 8 rfl)
    · have hf := ite_t c2 hf
      refine lv_iconst (v := 1) hx hb (dc tbJ5_isLatin1_aae02_k 5 rfl) ic_1 ?_
      refine lv_goto (tgt := 18) hx hb (dc tbJ5_isLatin1_aae02_k 6 rfl) rfl ?_
      cases hf
      exact g_zret hx hb hr hlk hI rfl (dc tbJ5_isLatin1_aae02_k 8 rfl)
def mJ5_length_8abf5 (k0 : Nat) (a0 : Nat) (n0 : Nat) (M : Mem) : Option Int32 := some (rd M k0 3)
set_option maxHeartbeats 4000000 in
set_option maxRecDepth 100000 in
theorem tJ5_length_8abf5 (l : Launch) {G : GT} {kd : Nat → Nat × Nat} {ad : Nat → Nat} {k0 : Nat} {a0 : Nat} {n0 : Nat} (hk0 : kSb kd k0 a0 n0) {M : Mem} {vo : Int32} (hf : mJ5_length_8abf5 k0 a0 n0 M = some vo) (n : Nat) : Met l yJ5_length_8abf5 (Cond.code yJ5_length_8abf5 cJ5_length_8abf5 1 (some .int) :: WA) (rmO 0 0 0) (Pg G kd ad n [.ref (ad k0)] M) (Qg G kd ad n M (some (.int vo))) 0 0 (AS kd ad n) := by
  refine g_body (own := RJ5) (by decide) rfl ?_ (Nat.le_of_ble_eq_true rfl)
  intro p e s m args below meth c C _ H locs ls hI hl
  obtain ⟨hx, hb, hml, hr, hown, hts, hlk, hK, hap, hsx⟩ := id C
  have hl : lv_has ls 1 [(0, .ref (ad k0))] := hl
  unfold mJ5_length_8abf5 at hf
  refine lv_aload_n hx hb (dc tbJ5_length_8abf5_k 0 rfl) rfl (lv_at hl 0 rfl) ?_
  refine ggSB_3 hx hb hts hown hK hI hk0.1 q_t2_52 (dc tbJ5_length_8abf5_k 1 rfl) ?_
  cases hf
  exact g_iret hx hb hr hlk hI (dc tbJ5_length_8abf5_k 2 rfl)
def mJ4_length_8abf5 (k0 : Nat) (a0 : Nat) (n0 : Nat) (M : Mem) : Option Int32 := cap (mJ5_length_8abf5 k0 a0 n0 M) (fun r2 => some r2)
set_option maxHeartbeats 4000000 in
set_option maxRecDepth 100000 in
theorem tJ4_length_8abf5 (l : Launch) {G : GT} {kd : Nat → Nat × Nat} {ad : Nat → Nat} {k0 : Nat} {a0 : Nat} {n0 : Nat} (hk0 : kSb kd k0 a0 n0) {M : Mem} {vo : Int32} (hf : mJ4_length_8abf5 k0 a0 n0 M = some vo) (n : Nat) : Met l yJ4_length_8abf5 (Cond.code yJ4_length_8abf5 cJ4_length_8abf5 1 (some .int) :: WA) (rmO 1 0 0) (Pg G kd ad n [.ref (ad k0)] M) (Qg G kd ad n M (some (.int vo))) 0 0 (AS kd ad n) := by
  refine g_body (own := RJ4) (by decide) rfl ?_ (Nat.le_of_ble_eq_true rfl)
  intro p e s m args below meth c C _ H locs ls hI hl
  obtain ⟨hx, hb, hml, hr, hown, hts, hlk, hK, hap, hsx⟩ := id C
  have hl : lv_has ls 1 [(0, .ref (ad k0))] := hl
  unfold mJ4_length_8abf5 at hf
  refine lv_aload_n hx hb (dc tbJ4_length_8abf5_k 0 rfl) rfl (lv_at hl 0 rfl) ?_
  obtain ⟨r2, q1, hf⟩ := cap_s hf
  refine g_callSUi (n := 0) hx hb hml hown hts hK hap hsx hI (tJ5_length_8abf5 l hk0 q1 H.size) q_t4_117 q_t4_113 q_t4_112 q_t1_7 q_t4_118 q_t2_61 (by decide +kernel) rfl rfl ⟨Nat.le_of_ble_eq_true rfl, Nat.le_of_ble_eq_true rfl⟩ hk0.1 (by simp) rfl rfl rfl hl.1 rfl (Nat.le_of_ble_eq_true rfl) (dc tbJ4_length_8abf5_k 1 rfl) ⟨Nat.le_of_ble_eq_true rfl, Nat.le_of_ble_eq_true rfl⟩ (fun H locs hI => ?_)
  cases hf
  exact g_iret hx hb hr hlk hI (dc tbJ4_length_8abf5_k 2 rfl)
def mJ5_newCapacity_0f7a4 (k0 : Nat) (a0 : Nat) (n0 : Nat) (x1 : Int32) (M : Mem) : Option Int32 := bnd ((Int32.ofNat n0)) (fun x2_5 => bnd ((x1 <<< ((rd M k0 1) &&& 31))) (fun x3_12 => bnd ((x3_12 - x2_5)) (fun x4_16 => cap (mJ8_newLength_cabcc x2_5 x4_16 (x2_5 + ((2 : Int32) <<< ((rd M k0 1) &&& 31))) M) (fun r5 => ite2 (r5 = (2147483647 : Int32)) (none) (some (r5 >>> ((rd M k0 1) &&& 31)))))))
set_option maxHeartbeats 4000000 in
set_option maxRecDepth 100000 in
theorem tJ5_newCapacity_0f7a4 (l : Launch) {G : GT} {kd : Nat → Nat × Nat} {ad : Nat → Nat} {k0 : Nat} {a0 : Nat} {n0 : Nat} (hk0 : kSb kd k0 a0 n0) {x1 : Int32} {M : Mem} {vo : Int32} (hf : mJ5_newCapacity_0f7a4 k0 a0 n0 x1 M = some vo) (n : Nat) : Met l yJ5_newCapacity_0f7a4 (Cond.code yJ5_newCapacity_0f7a4 cJ5_newCapacity_0f7a4 6 (some .int) :: WA) (rmO 1 0 0) (Pg G kd ad n [.ref (ad k0), .int x1] M) (Qg G kd ad n M (some (.int vo))) 0 0 (AS kd ad n) := by
  refine g_body (own := RJ5) (by decide) rfl ?_ (Nat.le_of_ble_eq_true rfl)
  intro p e s m args below meth c C _ H locs ls hI hl
  obtain ⟨hx, hb, hml, hr, hown, hts, hlk, hK, hap, hsx⟩ := id C
  have hl : lv_has ls 6 [(0, .ref (ad k0)), (1, .int x1)] := hl
  unfold mJ5_newCapacity_0f7a4 at hf
  refine lv_aload_n hx hb (dc tbJ5_newCapacity_0f7a4_k 0 rfl) rfl (lv_at hl 0 rfl) ?_
  refine ggSB_0 hx hb hts hown hK hI hk0.1 q_t2_49 (dc tbJ5_newCapacity_0f7a4_k 1 rfl) ?_
  refine g_alenB hx hb hK hI hk0.2 (v := Int32.ofNat n0) rfl (dc tbJ5_newCapacity_0f7a4_k 2 rfl) ?_
  obtain ⟨x2_5, e1, hf⟩ := bnd_s hf
  refine lv_ei e1 ?_
  refine lv_istore_n (lv' := [(2, .int x2_5), (0, .ref (ad k0)), (1, .int x1)]) hx hb (dc tbJ5_newCapacity_0f7a4_k 3 rfl) rfl hl (by decide) rfl (fun ls hl => ?_)
  refine lv_iload_n hx hb (dc tbJ5_newCapacity_0f7a4_k 4 rfl) rfl (lv_at hl 2 rfl) ?_
  refine lv_aload_n hx hb (dc tbJ5_newCapacity_0f7a4_k 5 rfl) rfl (lv_at hl 1 rfl) ?_
  refine ggSB_1 hx hb hts hown hK hI hk0.1 q_t2_50 (dc tbJ5_newCapacity_0f7a4_k 6 rfl) ?_
  refine lv_ishl hx hb (dc tbJ5_newCapacity_0f7a4_k 7 rfl) ?_
  obtain ⟨x3_12, e2, hf⟩ := bnd_s hf
  refine lv_ei e2 ?_
  refine lv_istore_n (lv' := [(3, .int x3_12), (2, .int x2_5), (0, .ref (ad k0)), (1, .int x1)]) hx hb (dc tbJ5_newCapacity_0f7a4_k 8 rfl) rfl hl (by decide) rfl (fun ls hl => ?_)
  refine lv_iload_n hx hb (dc tbJ5_newCapacity_0f7a4_k 9 rfl) rfl (lv_at hl 0 rfl) ?_
  refine lv_iload_n hx hb (dc tbJ5_newCapacity_0f7a4_k 10 rfl) rfl (lv_at hl 1 rfl) ?_
  refine lv_isub hx hb (dc tbJ5_newCapacity_0f7a4_k 11 rfl) ?_
  obtain ⟨x4_16, e3, hf⟩ := bnd_s hf
  refine lv_ei e3 ?_
  refine lv_istore (lv' := [(4, .int x4_16), (3, .int x3_12), (2, .int x2_5), (0, .ref (ad k0)), (1, .int x1)]) hx hb (dc tbJ5_newCapacity_0f7a4_k 12 rfl) hl (by decide) rfl (fun ls hl => ?_)
  refine lv_iload_n hx hb (dc tbJ5_newCapacity_0f7a4_k 13 rfl) rfl (lv_at hl 2 rfl) ?_
  refine lv_iload hx hb (dc tbJ5_newCapacity_0f7a4_k 14 rfl) (lv_at hl 0 rfl) ?_
  refine lv_iload_n hx hb (dc tbJ5_newCapacity_0f7a4_k 15 rfl) rfl (lv_at hl 2 rfl) ?_
  refine lv_iconst (v := 2) hx hb (dc tbJ5_newCapacity_0f7a4_k 16 rfl) ic_2 ?_
  refine lv_aload_n hx hb (dc tbJ5_newCapacity_0f7a4_k 17 rfl) rfl (lv_at hl 3 rfl) ?_
  refine ggSB_1 hx hb hts hown hK hI hk0.1 q_t2_50 (dc tbJ5_newCapacity_0f7a4_k 18 rfl) ?_
  refine lv_ishl hx hb (dc tbJ5_newCapacity_0f7a4_k 19 rfl) ?_
  refine lv_iadd hx hb (dc tbJ5_newCapacity_0f7a4_k 20 rfl) ?_
  obtain ⟨r5, q4, hf⟩ := cap_s hf
  refine g_callSi hx hb hml hown hts hK hap hsx hI (tJ8_newLength_cabcc l  q4 H.size) cs_J8_newLength_cabcc q_t3_226 rfl rfl ⟨Nat.le_of_ble_eq_true rfl, Nat.le_of_ble_eq_true rfl⟩ rfl hl.1 rfl (Nat.le_of_ble_eq_true rfl) (dc tbJ5_newCapacity_0f7a4_k 21 rfl) ⟨Nat.le_of_ble_eq_true rfl, Nat.le_of_ble_eq_true rfl⟩ (fun H locs hI => ?_)
  refine lv_istore (lv' := [(5, .int r5), (4, .int x4_16), (3, .int x3_12), (2, .int x2_5), (0, .ref (ad k0)), (1, .int x1)]) hx hb (dc tbJ5_newCapacity_0f7a4_k 22 rfl) hl (by decide) rfl (fun ls hl => ?_)
  refine lv_iload hx hb (dc tbJ5_newCapacity_0f7a4_k 23 rfl) (lv_at hl 0 rfl) ?_
  refine lv_ldc hx hb hown (hts _ q_t3_236) (dc tbJ5_newCapacity_0f7a4_k 24 rfl) ?_
  refine lv_icmp_ne (tgt := 51) hx hb (dc tbJ5_newCapacity_0f7a4_k 25 rfl) rfl (fun c7 => ?_) (fun c7 => ?_)
  · have hf := ite_f c7 hf
    refine lv_iload hx hb (dc tbJ5_newCapacity_0f7a4_k 31 rfl) (lv_at hl 0 rfl) ?_
    refine lv_aload_n hx hb (dc tbJ5_newCapacity_0f7a4_k 32 rfl) rfl (lv_at hl 4 rfl) ?_
    refine ggSB_1 hx hb hts hown hK hI hk0.1 q_t2_50 (dc tbJ5_newCapacity_0f7a4_k 33 rfl) ?_
    refine lv_ishr hx hb (dc tbJ5_newCapacity_0f7a4_k 34 rfl) ?_
    cases hf
    exact g_iret hx hb hr hlk hI (dc tbJ5_newCapacity_0f7a4_k 35 rfl)
  · have hf := ite_t c7 hf
    cases hf
def mJ0_coder_7d493_ds (k0 : Nat) (a0 : Nat) (n0 : Nat) (M : Mem) : Option Int32 := ite2 ((1 : Int32) = 0) (some (1 : Int32)) (chk (isY (rd M k0 1)) (some (rd M k0 1)))
set_option maxHeartbeats 4000000 in
set_option maxRecDepth 100000 in
theorem tJ0_coder_7d493_ds (l : Launch) {G : GT} {kd : Nat → Nat × Nat} {ad : Nat → Nat} {k0 : Nat} {a0 : Nat} {n0 : Nat} (hk0 : kDs kd k0 a0 n0) {M : Mem} {vo : Int32} (hf : mJ0_coder_7d493_ds k0 a0 n0 M = some vo) (n : Nat) : Met l yJ0_coder_7d493 (Cond.code yJ0_coder_7d493 cJ0_coder_7d493 1 (some .byte) :: WA) (rmO 0 0 0) (Pg G kd ad n [.ref (ad k0)] M) (Qg G kd ad n M (some (.int vo))) 0 0 (AS kd ad n) := by
  refine g_body (own := RJ0) (by decide) rfl ?_ (Nat.le_of_ble_eq_true rfl)
  intro p e s m args below meth c C _ H locs ls hI hl
  obtain ⟨hx, hb, hml, hr, hown, hts, hlk, hK, hap, hsx⟩ := id C
  have hl : lv_has ls 1 [(0, .ref (ad k0))] := hl
  unfold mJ0_coder_7d493_ds at hf
  refine g_gscs hx hb hown hts hsx hI q_t2_230 (dc tbJ0_coder_7d493_k 0 rfl) ?_
  refine lv_if_eq (tgt := 13) hx hb (dc tbJ0_coder_7d493_k 1 rfl) rfl (fun c1 => ?_) (fun c1 => ?_)
  · have hf := ite_t c1 hf
    refine lv_iconst (v := 1) hx hb (dc tbJ0_coder_7d493_k 5 rfl) ic_1 ?_
    cases hf
    exact g_zret hx hb hr hlk hI rfl (dc tbJ0_coder_7d493_k 6 rfl)
  · have hf := ite_f c1 hf
    refine lv_aload_n hx hb (dc tbJ0_coder_7d493_k 2 rfl) rfl (lv_at hl 0 rfl) ?_
    refine ggST_1 hx hb hts hown hK hI hk0.1 q_t4_148 (dc tbJ0_coder_7d493_k 3 rfl) ?_
    refine lv_goto (tgt := 14) hx hb (dc tbJ0_coder_7d493_k 4 rfl) rfl ?_
    obtain ⟨h2, hf⟩ := chk_s hf
    cases hf
    exact g_zret hx hb hr hlk hI (isY_n h2) (dc tbJ0_coder_7d493_k 6 rfl)
theorem cv_J0_coder_7d493_ds : cvF RJ0 yJ0_coder_7d493 cJ0_coder_7d493 1 (some .byte) 0 := ⟨q_t2_227, q_t2_228, q_t1_9, q_t2_229, by decide +kernel⟩
def mJ0_isLatin1_aae02_ds (k0 : Nat) (a0 : Nat) (n0 : Nat) (M : Mem) : Option Int32 := ite2 ((1 : Int32) = 0) (some (0 : Int32)) (ite2 ((rd M k0 1) = 0) (some (1 : Int32)) (some (0 : Int32)))
set_option maxHeartbeats 4000000 in
set_option maxRecDepth 100000 in
theorem tJ0_isLatin1_aae02_ds (l : Launch) {G : GT} {kd : Nat → Nat × Nat} {ad : Nat → Nat} {k0 : Nat} {a0 : Nat} {n0 : Nat} (hk0 : kDs kd k0 a0 n0) {M : Mem} {vo : Int32} (hf : mJ0_isLatin1_aae02_ds k0 a0 n0 M = some vo) (n : Nat) : Met l yJ0_isLatin1_aae02 (Cond.code yJ0_isLatin1_aae02 cJ0_isLatin1_aae02 1 (some .boolean) :: WA) (rmO 0 0 0) (Pg G kd ad n [.ref (ad k0)] M) (Qg G kd ad n M (some (.int vo))) 0 0 (AS kd ad n) := by
  refine g_body (own := RJ0) (by decide) rfl ?_ (Nat.le_of_ble_eq_true rfl)
  intro p e s m args below meth c C _ H locs ls hI hl
  obtain ⟨hx, hb, hml, hr, hown, hts, hlk, hK, hap, hsx⟩ := id C
  have hl : lv_has ls 1 [(0, .ref (ad k0))] := hl
  unfold mJ0_isLatin1_aae02_ds at hf
  refine g_gscs hx hb hown hts hsx hI q_t2_230 (dc tbJ0_isLatin1_aae02_k 0 rfl) ?_
  refine lv_if_eq (tgt := 17) hx hb (dc tbJ0_isLatin1_aae02_k 1 rfl) rfl (fun c1 => ?_) (fun c1 => ?_)
  · have hf := ite_t c1 hf
    refine lv_iconst (v := 0) hx hb (dc tbJ0_isLatin1_aae02_k 7 rfl) ic_0 ?_
    cases hf
    exact g_zret hx hb hr hlk hI rfl (dc tbJ0_isLatin1_aae02_k 8 rfl)
  · have hf := ite_f c1 hf
    refine lv_aload_n hx hb (dc tbJ0_isLatin1_aae02_k 2 rfl) rfl (lv_at hl 0 rfl) ?_
    refine ggST_1 hx hb hts hown hK hI hk0.1 q_t4_148 (dc tbJ0_isLatin1_aae02_k 3 rfl) ?_
    refine lv_if_ne (tgt := 17) hx hb (dc tbJ0_isLatin1_aae02_k 4 rfl) rfl (fun c2 => ?_) (fun c2 => ?_)
    · have hf := ite_f c2 hf
      refine lv_iconst (v := 0) hx hb (dc tbJ0_isLatin1_aae02_k 7 rfl) ic_0 ?_
      cases hf
      exact g_zret hx hb hr hlk hI rfl (dc tbJ0_isLatin1_aae02_k 8 rfl)
    · have hf := ite_t c2 hf
      refine lv_iconst (v := 1) hx hb (dc tbJ0_isLatin1_aae02_k 5 rfl) ic_1 ?_
      refine lv_goto (tgt := 18) hx hb (dc tbJ0_isLatin1_aae02_k 6 rfl) rfl ?_
      cases hf
      exact g_zret hx hb hr hlk hI rfl (dc tbJ0_isLatin1_aae02_k 8 rfl)
theorem cv_J0_isLatin1_aae02_ds : cvF RJ0 yJ0_isLatin1_aae02 cJ0_isLatin1_aae02 1 (some .boolean) 0 := ⟨q_t2_239, q_t3_0, q_t1_9, q_t3_1, by decide +kernel⟩
def mJ0_length_8abf5_ds (k0 : Nat) (a0 : Nat) (n0 : Nat) (M : Mem) : Option Int32 := cap (mJ0_coder_7d493_ds k0 a0 n0 M) (fun r2 => some ((Int32.ofNat n0) >>> (r2 &&& 31)))
set_option maxHeartbeats 4000000 in
set_option maxRecDepth 100000 in
theorem tJ0_length_8abf5_ds (l : Launch) {G : GT} {kd : Nat → Nat × Nat} {ad : Nat → Nat} {k0 : Nat} {a0 : Nat} {n0 : Nat} (hk0 : kDs kd k0 a0 n0) {M : Mem} {vo : Int32} (hf : mJ0_length_8abf5_ds k0 a0 n0 M = some vo) (n : Nat) : Met l yJ0_length_8abf5 (Cond.code yJ0_length_8abf5 cJ0_length_8abf5 1 (some .int) :: WA) (rmO 1 0 0) (Pg G kd ad n [.ref (ad k0)] M) (Qg G kd ad n M (some (.int vo))) 0 0 (AS kd ad n) := by
  refine g_body (own := RJ0) (by decide) rfl ?_ (Nat.le_of_ble_eq_true rfl)
  intro p e s m args below meth c C _ H locs ls hI hl
  obtain ⟨hx, hb, hml, hr, hown, hts, hlk, hK, hap, hsx⟩ := id C
  have hl : lv_has ls 1 [(0, .ref (ad k0))] := hl
  unfold mJ0_length_8abf5_ds at hf
  refine lv_aload_n hx hb (dc tbJ0_length_8abf5_k 0 rfl) rfl (lv_at hl 0 rfl) ?_
  refine ggST_0 hx hb hts hown hK hI hk0.1 q_t4_147 (dc tbJ0_length_8abf5_k 1 rfl) ?_
  refine g_alenB hx hb hK hI hk0.2 (v := Int32.ofNat n0) rfl (dc tbJ0_length_8abf5_k 2 rfl) ?_
  refine lv_aload_n hx hb (dc tbJ0_length_8abf5_k 3 rfl) rfl (lv_at hl 0 rfl) ?_
  obtain ⟨r2, q1, hf⟩ := cap_s hf
  refine g_callVi hx hb hml hown hts hK hap hsx hI (tJ0_coder_7d493_ds l hk0 q1 H.size) cv_J0_coder_7d493_ds q_t2_226 rfl rfl ⟨Nat.le_of_ble_eq_true rfl, Nat.le_of_ble_eq_true rfl⟩ hk0.1 (by simp) rfl rfl rfl hl.1 rfl (Nat.le_of_ble_eq_true rfl) (dc tbJ0_length_8abf5_k 4 rfl) ⟨Nat.le_of_ble_eq_true rfl, Nat.le_of_ble_eq_true rfl⟩ (fun H locs hI => ?_)
  refine lv_ishr hx hb (dc tbJ0_length_8abf5_k 5 rfl) ?_
  cases hf
  exact g_iret hx hb hr hlk hI (dc tbJ0_length_8abf5_k 6 rfl)
theorem cv_J0_length_8abf5_ds : cvF RJ0 yJ0_length_8abf5 cJ0_length_8abf5 1 (some .int) 0 := ⟨q_t2_223, q_t2_224, q_t1_9, q_t2_225, by decide +kernel⟩
def mJ1_charAt_3b067_ds (k0 : Nat) (n0 : Nat) (x1 : Int32) (M : Mem) : Option Int32 := cap (mJ0_checkIndex_df160 x1 (Int32.ofNat n0) M) (fun r2 => chk (okb x1 n0) (chk (isC ((((rd M k0 (x1).toNatClampNeg) &&& (255 : Int32))).toUInt32 % 65536).toInt32) (some ((((rd M k0 (x1).toNatClampNeg) &&& (255 : Int32))).toUInt32 % 65536).toInt32)))
set_option maxHeartbeats 4000000 in
set_option maxRecDepth 100000 in
theorem tJ1_charAt_3b067_ds (l : Launch) {G : GT} {kd : Nat → Nat × Nat} {ad : Nat → Nat} {k0 : Nat} {n0 : Nat} (hk0 : kd k0 = (11, n0)) {x1 : Int32} {M : Mem} {vo : Int32} (hf : mJ1_charAt_3b067_ds k0 n0 x1 M = some vo) (n : Nat) : Met l yJ1_charAt_3b067 (Cond.code yJ1_charAt_3b067 cJ1_charAt_3b067 2 (some .char) :: WA) (rmO 2 0 0) (Pg G kd ad n [.ref (ad k0), .int x1] M) (Qg G kd ad n M (some (.int vo))) 0 0 (AS kd ad n) := by
  refine g_body (own := RJ1) (by decide) rfl ?_ (Nat.le_of_ble_eq_true rfl)
  intro p e s m args below meth c C _ H locs ls hI hl
  obtain ⟨hx, hb, hml, hr, hown, hts, hlk, hK, hap, hsx⟩ := id C
  have hl : lv_has ls 2 [(0, .ref (ad k0)), (1, .int x1)] := hl
  unfold mJ1_charAt_3b067_ds at hf
  refine lv_iload_n hx hb (dc tbJ1_charAt_3b067_k 0 rfl) rfl (lv_at hl 1 rfl) ?_
  refine lv_aload_n hx hb (dc tbJ1_charAt_3b067_k 1 rfl) rfl (lv_at hl 0 rfl) ?_
  refine g_alenB hx hb hK hI hk0 (v := Int32.ofNat n0) rfl (dc tbJ1_charAt_3b067_k 2 rfl) ?_
  obtain ⟨r2, q1, hf⟩ := cap_s hf
  refine g_callSv hx hb hml hown hts hK hap hsx hI (tJ0_checkIndex_df160 l  q1 H.size) cs_J0_checkIndex_df160 q_t3_5 rfl rfl ⟨Nat.le_of_ble_eq_true rfl, Nat.le_of_ble_eq_true rfl⟩ rfl hl.1 rfl (Nat.le_of_ble_eq_true rfl) (dc tbJ1_charAt_3b067_k 3 rfl) ⟨Nat.le_of_ble_eq_true rfl, Nat.le_of_ble_eq_true rfl⟩ (fun H locs hI => ?_)
  refine lv_aload_n hx hb (dc tbJ1_charAt_3b067_k 4 rfl) rfl (lv_at hl 0 rfl) ?_
  refine lv_iload_n hx hb (dc tbJ1_charAt_3b067_k 5 rfl) rfl (lv_at hl 1 rfl) ?_
  obtain ⟨h4, hf⟩ := chk_s hf
  refine g_bald hx hb hK hI hk0 (okb_in h4) (dc tbJ1_charAt_3b067_k 6 rfl) ?_
  refine lv_sipush (v := 255) hx hb (dc tbJ1_charAt_3b067_k 7 rfl) sp_255 ?_
  refine lv_iand hx hb (dc tbJ1_charAt_3b067_k 8 rfl) ?_
  refine lv_i2c hx hb (dc tbJ1_charAt_3b067_k 9 rfl) rfl ?_
  obtain ⟨h5, hf⟩ := chk_s hf
  cases hf
  exact g_zret hx hb hr hlk hI (isC_n h5) (dc tbJ1_charAt_3b067_k 10 rfl)
theorem cs_J1_charAt_3b067_ds : csF yJ1_charAt_3b067 cJ1_charAt_3b067 2 (some .char) 2 := ⟨q_t3_3, q_t1_16, q_t3_4, by decide +kernel⟩
def mJ0_charAt_5068e_ds (k0 : Nat) (a0 : Nat) (n0 : Nat) (x1 : Int32) (M : Mem) : Option Int32 := cap (mJ0_isLatin1_aae02_ds k0 a0 n0 M) (fun r2 => ite2 (r2 = 0) (none) (cap (mJ1_charAt_3b067_ds a0 n0 x1 M) (fun r6 => chk (isC r6) (some r6))))
set_option maxHeartbeats 4000000 in
set_option maxRecDepth 100000 in
theorem tJ0_charAt_5068e_ds (l : Launch) {G : GT} {kd : Nat → Nat × Nat} {ad : Nat → Nat} {k0 : Nat} {a0 : Nat} {n0 : Nat} (hk0 : kDs kd k0 a0 n0) {x1 : Int32} {M : Mem} {vo : Int32} (hf : mJ0_charAt_5068e_ds k0 a0 n0 x1 M = some vo) (n : Nat) : Met l yJ0_charAt_5068e (Cond.code yJ0_charAt_5068e cJ0_charAt_5068e 2 (some .char) :: WA) (rmO 3 0 0) (Pg G kd ad n [.ref (ad k0), .int x1] M) (Qg G kd ad n M (some (.int vo))) 0 0 (AS kd ad n) := by
  refine g_body (own := RJ0) (by decide) rfl ?_ (Nat.le_of_ble_eq_true rfl)
  intro p e s m args below meth c C _ H locs ls hI hl
  obtain ⟨hx, hb, hml, hr, hown, hts, hlk, hK, hap, hsx⟩ := id C
  have hl : lv_has ls 2 [(0, .ref (ad k0)), (1, .int x1)] := hl
  unfold mJ0_charAt_5068e_ds at hf
  refine lv_aload_n hx hb (dc tbJ0_charAt_5068e_k 0 rfl) rfl (lv_at hl 0 rfl) ?_
  obtain ⟨r2, q1, hf⟩ := cap_s hf
  refine g_callVi hx hb hml hown hts hK hap hsx hI (tJ0_isLatin1_aae02_ds l hk0 q1 H.size) cv_J0_isLatin1_aae02_ds q_t2_238 rfl rfl ⟨Nat.le_of_ble_eq_true rfl, Nat.le_of_ble_eq_true rfl⟩ hk0.1 (by simp) rfl rfl rfl hl.1 rfl (Nat.le_of_ble_eq_true rfl) (dc tbJ0_charAt_5068e_k 1 rfl) ⟨Nat.le_of_ble_eq_true rfl, Nat.le_of_ble_eq_true rfl⟩ (fun H locs hI => ?_)
  refine lv_if_eq (tgt := 16) hx hb (dc tbJ0_charAt_5068e_k 2 rfl) rfl (fun c4 => ?_) (fun c4 => ?_)
  · have hf := ite_t c4 hf
    refine lv_aload_n hx hb (dc tbJ0_charAt_5068e_k 8 rfl) rfl (lv_at hl 0 rfl) ?_
    refine ggST_0 hx hb hts hown hK hI hk0.1 q_t4_147 (dc tbJ0_charAt_5068e_k 9 rfl) ?_
    refine lv_iload_n hx hb (dc tbJ0_charAt_5068e_k 10 rfl) rfl (lv_at hl 1 rfl) ?_
    cases hf
  · have hf := ite_f c4 hf
    refine lv_aload_n hx hb (dc tbJ0_charAt_5068e_k 3 rfl) rfl (lv_at hl 0 rfl) ?_
    refine ggST_0 hx hb hts hown hK hI hk0.1 q_t4_147 (dc tbJ0_charAt_5068e_k 4 rfl) ?_
    refine lv_iload_n hx hb (dc tbJ0_charAt_5068e_k 5 rfl) rfl (lv_at hl 1 rfl) ?_
    obtain ⟨r6, q5, hf⟩ := cap_s hf
    refine g_callSi hx hb hml hown hts hK hap hsx hI (tJ1_charAt_3b067_ds l hk0.2 q5 H.size) cs_J1_charAt_3b067_ds q_t3_2 rfl rfl ⟨Nat.le_of_ble_eq_true rfl, Nat.le_of_ble_eq_true rfl⟩ rfl hl.1 rfl (Nat.le_of_ble_eq_true rfl) (dc tbJ0_charAt_5068e_k 6 rfl) ⟨Nat.le_of_ble_eq_true rfl, Nat.le_of_ble_eq_true rfl⟩ (fun H locs hI => ?_)
    obtain ⟨h8, hf⟩ := chk_s hf
    cases hf
    exact g_zret hx hb hr hlk hI (isC_n h8) (dc tbJ0_charAt_5068e_k 7 rfl)
theorem cv_J0_charAt_5068e_ds : cvF RJ0 yJ0_charAt_5068e cJ0_charAt_5068e 2 (some .char) 1 := ⟨q_t2_235, q_t2_236, q_t1_9, q_t2_237, by decide +kernel⟩
def mJ0_getBytes_840e7 (k0 : Nat) (k1 : Nat) (n1 : Nat) (x2 : Int32) (x3 : Int32) (M : Mem) : Option (Mem × Unit) := cap (mJ0_coder_7d493 k0 M) (fun r2 => ite2 (r2 = x3) (chk (!(decide ((x2 <<< (x3 &&& 31)) < 0)) && decide (((x2 <<< (x3 &&& 31))).toNatClampNeg + stLen k0 ≤ n1)) (bnd (cpS M k0 k1 ((x2 <<< (x3 &&& 31))).toNatClampNeg) (fun M5 => some (M5, ())))) (none))
set_option maxHeartbeats 4000000 in
set_option maxRecDepth 100000 in
theorem tJ0_getBytes_840e7 (l : Launch) {G : GT} {kd : Nat → Nat × Nat} {ad : Nat → Nat} {k0 : Nat} {k1 : Nat} {n1 : Nat} (hk0 : k0 < 19) (hk1 : kd k1 = (11, n1)) {x2 : Int32} {x3 : Int32} {M : Mem} {MO : Mem} {vo : Unit} (hf : mJ0_getBytes_840e7 k0 k1 n1 x2 x3 M = some (MO, vo)) (n : Nat) : Met l yJ0_getBytes_840e7 (Cond.code yJ0_getBytes_840e7 cJ0_getBytes_840e7 4 none :: WA) (rmO 1 0 0) (Pg G kd ad n [.ref (G.2.2 (100 + k0)), .ref (ad k1), .int x2, .int x3] M) (Qg G kd ad n MO none) 0 0 (AS kd ad n) := by
  refine g_body (own := RJ0) (by decide) rfl ?_ (Nat.le_of_ble_eq_true rfl)
  intro p e s m args below meth c C _ H locs ls hI hl
  obtain ⟨hx, hb, hml, hr, hown, hts, hlk, hK, hap, hsx⟩ := id C
  have hl : lv_has ls 4 [(0, .ref (G.2.2 (100 + k0))), (1, .ref (ad k1)), (2, .int x2), (3, .int x3)] := hl
  unfold mJ0_getBytes_840e7 at hf
  refine lv_aload_n hx hb (dc tbJ0_getBytes_840e7_k 0 rfl) rfl (lv_at hl 0 rfl) ?_
  obtain ⟨r2, q1, hf⟩ := cap_s hf
  refine g_callTi hx hb hml hown hts hK hap hsx hI (tJ0_coder_7d493 l hk0 q1 H.size) cv_J0_coder_7d493 q_t2_226 rfl rfl ⟨Nat.le_of_ble_eq_true rfl, Nat.le_of_ble_eq_true rfl⟩ hk0 rfl hl.1 rfl (Nat.le_of_ble_eq_true rfl) (dc tbJ0_getBytes_840e7_k 1 rfl) ⟨Nat.le_of_ble_eq_true rfl, Nat.le_of_ble_eq_true rfl⟩ (fun H locs hI => ?_)
  refine lv_iload_n hx hb (dc tbJ0_getBytes_840e7_k 2 rfl) rfl (lv_at hl 3 rfl) ?_
  refine lv_icmp_ne (tgt := 28) hx hb (dc tbJ0_getBytes_840e7_k 3 rfl) rfl (fun c4 => ?_) (fun c4 => ?_)
  · have hf := ite_f c4 hf
    refine lv_aload_n hx hb (dc tbJ0_getBytes_840e7_k 16 rfl) rfl (lv_at hl 0 rfl) ?_
    refine g_sval hx hb hown hts hsx hI hk0 q_t4_147 (dc tbJ0_getBytes_840e7_k 17 rfl) ?_
    refine lv_iconst (v := 0) hx hb (dc tbJ0_getBytes_840e7_k 18 rfl) ic_0 ?_
    refine lv_aload_n hx hb (dc tbJ0_getBytes_840e7_k 19 rfl) rfl (lv_at hl 1 rfl) ?_
    refine lv_iload_n hx hb (dc tbJ0_getBytes_840e7_k 20 rfl) rfl (lv_at hl 2 rfl) ?_
    refine lv_aload_n hx hb (dc tbJ0_getBytes_840e7_k 21 rfl) rfl (lv_at hl 0 rfl) ?_
    refine g_sval hx hb hown hts hsx hI hk0 q_t4_147 (dc tbJ0_getBytes_840e7_k 22 rfl) ?_
    refine g_svlen hx hb hsx hI hk0 (dc tbJ0_getBytes_840e7_k 23 rfl) ?_
    cases hf
  · have hf := ite_t c4 hf
    refine lv_aload_n hx hb (dc tbJ0_getBytes_840e7_k 4 rfl) rfl (lv_at hl 0 rfl) ?_
    refine g_sval hx hb hown hts hsx hI hk0 q_t4_147 (dc tbJ0_getBytes_840e7_k 5 rfl) ?_
    refine lv_iconst (v := 0) hx hb (dc tbJ0_getBytes_840e7_k 6 rfl) ic_0 ?_
    refine lv_aload_n hx hb (dc tbJ0_getBytes_840e7_k 7 rfl) rfl (lv_at hl 1 rfl) ?_
    refine lv_iload_n hx hb (dc tbJ0_getBytes_840e7_k 8 rfl) rfl (lv_at hl 2 rfl) ?_
    refine lv_iload_n hx hb (dc tbJ0_getBytes_840e7_k 9 rfl) rfl (lv_at hl 3 rfl) ?_
    refine lv_ishl hx hb (dc tbJ0_getBytes_840e7_k 10 rfl) ?_
    refine lv_aload_n hx hb (dc tbJ0_getBytes_840e7_k 11 rfl) rfl (lv_at hl 0 rfl) ?_
    refine g_sval hx hb hown hts hsx hI hk0 q_t4_147 (dc tbJ0_getBytes_840e7_k 12 rfl) ?_
    refine g_svlen hx hb hsx hI hk0 (dc tbJ0_getBytes_840e7_k 13 rfl) ?_
    obtain ⟨h7, hf⟩ := chk_s hf
    obtain ⟨M5, e6, hf⟩ := bnd_s hf
    refine g_copyS hx hb (hml.trans hl.1.symm) hown (hts _ q_t4_64) (hts _ q_t3_186) (hts _ q_t3_185) (hts _ q_t1_14) hK hap hsx hI hk0 hk1 h7 ⟨Nat.le_of_ble_eq_true rfl, Nat.le_of_ble_eq_true rfl⟩ (dc tbJ0_getBytes_840e7_k 14 rfl) e6 (fun H locs hI => ?_)
    refine lv_goto (tgt := 43) hx hb (dc tbJ0_getBytes_840e7_k 15 rfl) rfl ?_
    cases hf
    exact g_vret hx hb hr hlk hI (dc tbJ0_getBytes_840e7_k 25 rfl)
theorem cv_J0_getBytes_840e7 : cvF RJ0 yJ0_getBytes_840e7 cJ0_getBytes_840e7 4 none 3 := ⟨q_t4_61, q_t4_62, q_t1_9, q_t4_63, by decide +kernel⟩
def mJ0_getBytes_840e7_ds (k0 : Nat) (a0 : Nat) (n0 : Nat) (k1 : Nat) (n1 : Nat) (x2 : Int32) (x3 : Int32) (M : Mem) : Option (Mem × Unit) := cap (mJ0_coder_7d493_ds k0 a0 n0 M) (fun r2 => ite2 (r2 = x3) (chk (cpok M a0 n0 n1 (0 : Int32) (x2 <<< (x3 &&& 31)) (Int32.ofNat n0)) (bnd (cpy M a0 k1 ((0 : Int32)).toNatClampNeg ((x2 <<< (x3 &&& 31))).toNatClampNeg ((Int32.ofNat n0)).toNatClampNeg) (fun M5 => some (M5, ())))) (none))
set_option maxHeartbeats 4000000 in
set_option maxRecDepth 100000 in
theorem tJ0_getBytes_840e7_ds (l : Launch) {G : GT} {kd : Nat → Nat × Nat} {ad : Nat → Nat} {k0 : Nat} {a0 : Nat} {n0 : Nat} {k1 : Nat} {n1 : Nat} (hk0 : kDs kd k0 a0 n0) (hk1 : kd k1 = (11, n1)) {x2 : Int32} {x3 : Int32} {M : Mem} {MO : Mem} {vo : Unit} (hf : mJ0_getBytes_840e7_ds k0 a0 n0 k1 n1 x2 x3 M = some (MO, vo)) (n : Nat) : Met l yJ0_getBytes_840e7 (Cond.code yJ0_getBytes_840e7 cJ0_getBytes_840e7 4 none :: WA) (rmO 1 0 0) (Pg G kd ad n [.ref (ad k0), .ref (ad k1), .int x2, .int x3] M) (Qg G kd ad n MO none) 0 0 (AS kd ad n) := by
  refine g_body (own := RJ0) (by decide) rfl ?_ (Nat.le_of_ble_eq_true rfl)
  intro p e s m args below meth c C _ H locs ls hI hl
  obtain ⟨hx, hb, hml, hr, hown, hts, hlk, hK, hap, hsx⟩ := id C
  have hl : lv_has ls 4 [(0, .ref (ad k0)), (1, .ref (ad k1)), (2, .int x2), (3, .int x3)] := hl
  unfold mJ0_getBytes_840e7_ds at hf
  refine lv_aload_n hx hb (dc tbJ0_getBytes_840e7_k 0 rfl) rfl (lv_at hl 0 rfl) ?_
  obtain ⟨r2, q1, hf⟩ := cap_s hf
  refine g_callVi hx hb hml hown hts hK hap hsx hI (tJ0_coder_7d493_ds l hk0 q1 H.size) cv_J0_coder_7d493_ds q_t2_226 rfl rfl ⟨Nat.le_of_ble_eq_true rfl, Nat.le_of_ble_eq_true rfl⟩ hk0.1 (by simp) rfl rfl rfl hl.1 rfl (Nat.le_of_ble_eq_true rfl) (dc tbJ0_getBytes_840e7_k 1 rfl) ⟨Nat.le_of_ble_eq_true rfl, Nat.le_of_ble_eq_true rfl⟩ (fun H locs hI => ?_)
  refine lv_iload_n hx hb (dc tbJ0_getBytes_840e7_k 2 rfl) rfl (lv_at hl 3 rfl) ?_
  refine lv_icmp_ne (tgt := 28) hx hb (dc tbJ0_getBytes_840e7_k 3 rfl) rfl (fun c4 => ?_) (fun c4 => ?_)
  · have hf := ite_f c4 hf
    refine lv_aload_n hx hb (dc tbJ0_getBytes_840e7_k 16 rfl) rfl (lv_at hl 0 rfl) ?_
    refine ggST_0 hx hb hts hown hK hI hk0.1 q_t4_147 (dc tbJ0_getBytes_840e7_k 17 rfl) ?_
    refine lv_iconst (v := 0) hx hb (dc tbJ0_getBytes_840e7_k 18 rfl) ic_0 ?_
    refine lv_aload_n hx hb (dc tbJ0_getBytes_840e7_k 19 rfl) rfl (lv_at hl 1 rfl) ?_
    refine lv_iload_n hx hb (dc tbJ0_getBytes_840e7_k 20 rfl) rfl (lv_at hl 2 rfl) ?_
    refine lv_aload_n hx hb (dc tbJ0_getBytes_840e7_k 21 rfl) rfl (lv_at hl 0 rfl) ?_
    refine ggST_0 hx hb hts hown hK hI hk0.1 q_t4_147 (dc tbJ0_getBytes_840e7_k 22 rfl) ?_
    refine g_alenB hx hb hK hI hk0.2 (v := Int32.ofNat n0) rfl (dc tbJ0_getBytes_840e7_k 23 rfl) ?_
    cases hf
  · have hf := ite_t c4 hf
    refine lv_aload_n hx hb (dc tbJ0_getBytes_840e7_k 4 rfl) rfl (lv_at hl 0 rfl) ?_
    refine ggST_0 hx hb hts hown hK hI hk0.1 q_t4_147 (dc tbJ0_getBytes_840e7_k 5 rfl) ?_
    refine lv_iconst (v := 0) hx hb (dc tbJ0_getBytes_840e7_k 6 rfl) ic_0 ?_
    refine lv_aload_n hx hb (dc tbJ0_getBytes_840e7_k 7 rfl) rfl (lv_at hl 1 rfl) ?_
    refine lv_iload_n hx hb (dc tbJ0_getBytes_840e7_k 8 rfl) rfl (lv_at hl 2 rfl) ?_
    refine lv_iload_n hx hb (dc tbJ0_getBytes_840e7_k 9 rfl) rfl (lv_at hl 3 rfl) ?_
    refine lv_ishl hx hb (dc tbJ0_getBytes_840e7_k 10 rfl) ?_
    refine lv_aload_n hx hb (dc tbJ0_getBytes_840e7_k 11 rfl) rfl (lv_at hl 0 rfl) ?_
    refine ggST_0 hx hb hts hown hK hI hk0.1 q_t4_147 (dc tbJ0_getBytes_840e7_k 12 rfl) ?_
    refine g_alenB hx hb hK hI hk0.2 (v := Int32.ofNat n0) rfl (dc tbJ0_getBytes_840e7_k 13 rfl) ?_
    obtain ⟨h7, hf⟩ := chk_s hf
    obtain ⟨M5, e6, hf⟩ := bnd_s hf
    refine g_copyD hx hb (hml.trans hl.1.symm) hown (hts _ q_t4_64) (hts _ q_t3_186) (hts _ q_t3_185) (hts _ q_t1_14) hK hap hI hk0.2 hk1 h7 ⟨Nat.le_of_ble_eq_true rfl, Nat.le_of_ble_eq_true rfl⟩ (dc tbJ0_getBytes_840e7_k 14 rfl) e6 (fun H locs hI => ?_)
    refine lv_goto (tgt := 43) hx hb (dc tbJ0_getBytes_840e7_k 15 rfl) rfl ?_
    cases hf
    exact g_vret hx hb hr hlk hI (dc tbJ0_getBytes_840e7_k 25 rfl)
theorem cv_J0_getBytes_840e7_ds : cvF RJ0 yJ0_getBytes_840e7 cJ0_getBytes_840e7 4 none 3 := ⟨q_t4_61, q_t4_62, q_t1_9, q_t4_63, by decide +kernel⟩
def mJ5_inflateIfNeededFor_a7421 (k0 : Nat) (a0 : Nat) (n0 : Nat) (k1 : Nat) (M : Mem) : Option Unit := ite2 ((1 : Int32) = 0) (some ()) (cap (mJ0_coder_7d493 k1 M) (fun r3 => ite2 ((rd M k0 1) = r3) (some ()) (none)))
set_option maxHeartbeats 4000000 in
set_option maxRecDepth 100000 in
theorem tJ5_inflateIfNeededFor_a7421 (l : Launch) {G : GT} {kd : Nat → Nat × Nat} {ad : Nat → Nat} {k0 : Nat} {a0 : Nat} {n0 : Nat} {k1 : Nat} (hk0 : kSb kd k0 a0 n0) (hk1 : k1 < 19) {M : Mem} {vo : Unit} (hf : mJ5_inflateIfNeededFor_a7421 k0 a0 n0 k1 M = some vo) (n : Nat) : Met l yJ5_inflateIfNeededFor_a7421 (Cond.code yJ5_inflateIfNeededFor_a7421 cJ5_inflateIfNeededFor_a7421 2 none :: WA) (rmO 1 0 0) (Pg G kd ad n [.ref (ad k0), .ref (G.2.2 (100 + k1))] M) (Qg G kd ad n M none) 0 0 (AS kd ad n) := by
  refine g_body (own := RJ5) (by decide) rfl ?_ (Nat.le_of_ble_eq_true rfl)
  intro p e s m args below meth c C _ H locs ls hI hl
  obtain ⟨hx, hb, hml, hr, hown, hts, hlk, hK, hap, hsx⟩ := id C
  have hl : lv_has ls 2 [(0, .ref (ad k0)), (1, .ref (G.2.2 (100 + k1)))] := hl
  unfold mJ5_inflateIfNeededFor_a7421 at hf
  refine g_gscs hx hb hown hts hsx hI q_t2_40 (dc tbJ5_inflateIfNeededFor_a7421_k 0 rfl) ?_
  refine lv_if_eq (tgt := 21) hx hb (dc tbJ5_inflateIfNeededFor_a7421_k 1 rfl) rfl (fun c1 => ?_) (fun c1 => ?_)
  · have hf := ite_t c1 hf
    cases hf
    exact g_vret hx hb hr hlk hI (dc tbJ5_inflateIfNeededFor_a7421_k 9 rfl)
  · have hf := ite_f c1 hf
    refine lv_aload_n hx hb (dc tbJ5_inflateIfNeededFor_a7421_k 2 rfl) rfl (lv_at hl 0 rfl) ?_
    refine ggSB_1 hx hb hts hown hK hI hk0.1 q_t2_50 (dc tbJ5_inflateIfNeededFor_a7421_k 3 rfl) ?_
    refine lv_aload_n hx hb (dc tbJ5_inflateIfNeededFor_a7421_k 4 rfl) rfl (lv_at hl 1 rfl) ?_
    obtain ⟨r3, q2, hf⟩ := cap_s hf
    refine g_callTi hx hb hml hown hts hK hap hsx hI (tJ0_coder_7d493 l hk1 q2 H.size) cv_J0_coder_7d493 q_t4_40 rfl rfl ⟨Nat.le_of_ble_eq_true rfl, Nat.le_of_ble_eq_true rfl⟩ hk1 rfl hl.1 rfl (Nat.le_of_ble_eq_true rfl) (dc tbJ5_inflateIfNeededFor_a7421_k 5 rfl) ⟨Nat.le_of_ble_eq_true rfl, Nat.le_of_ble_eq_true rfl⟩ (fun H locs hI => ?_)
    refine lv_icmp_eq (tgt := 21) hx hb (dc tbJ5_inflateIfNeededFor_a7421_k 6 rfl) rfl (fun c5 => ?_) (fun c5 => ?_)
    · have hf := ite_t c5 hf
      cases hf
      exact g_vret hx hb hr hlk hI (dc tbJ5_inflateIfNeededFor_a7421_k 9 rfl)
    · have hf := ite_f c5 hf
      refine lv_aload_n hx hb (dc tbJ5_inflateIfNeededFor_a7421_k 7 rfl) rfl (lv_at hl 0 rfl) ?_
      cases hf
def mJ5_inflateIfNeededFor_a7421_ds (k0 : Nat) (a0 : Nat) (n0 : Nat) (k1 : Nat) (a1 : Nat) (n1 : Nat) (M : Mem) : Option Unit := ite2 ((1 : Int32) = 0) (some ()) (cap (mJ0_coder_7d493_ds k1 a1 n1 M) (fun r3 => ite2 ((rd M k0 1) = r3) (some ()) (none)))
set_option maxHeartbeats 4000000 in
set_option maxRecDepth 100000 in
theorem tJ5_inflateIfNeededFor_a7421_ds (l : Launch) {G : GT} {kd : Nat → Nat × Nat} {ad : Nat → Nat} {k0 : Nat} {a0 : Nat} {n0 : Nat} {k1 : Nat} {a1 : Nat} {n1 : Nat} (hk0 : kSb kd k0 a0 n0) (hk1 : kDs kd k1 a1 n1) {M : Mem} {vo : Unit} (hf : mJ5_inflateIfNeededFor_a7421_ds k0 a0 n0 k1 a1 n1 M = some vo) (n : Nat) : Met l yJ5_inflateIfNeededFor_a7421 (Cond.code yJ5_inflateIfNeededFor_a7421 cJ5_inflateIfNeededFor_a7421 2 none :: WA) (rmO 1 0 0) (Pg G kd ad n [.ref (ad k0), .ref (ad k1)] M) (Qg G kd ad n M none) 0 0 (AS kd ad n) := by
  refine g_body (own := RJ5) (by decide) rfl ?_ (Nat.le_of_ble_eq_true rfl)
  intro p e s m args below meth c C _ H locs ls hI hl
  obtain ⟨hx, hb, hml, hr, hown, hts, hlk, hK, hap, hsx⟩ := id C
  have hl : lv_has ls 2 [(0, .ref (ad k0)), (1, .ref (ad k1))] := hl
  unfold mJ5_inflateIfNeededFor_a7421_ds at hf
  refine g_gscs hx hb hown hts hsx hI q_t2_40 (dc tbJ5_inflateIfNeededFor_a7421_k 0 rfl) ?_
  refine lv_if_eq (tgt := 21) hx hb (dc tbJ5_inflateIfNeededFor_a7421_k 1 rfl) rfl (fun c1 => ?_) (fun c1 => ?_)
  · have hf := ite_t c1 hf
    cases hf
    exact g_vret hx hb hr hlk hI (dc tbJ5_inflateIfNeededFor_a7421_k 9 rfl)
  · have hf := ite_f c1 hf
    refine lv_aload_n hx hb (dc tbJ5_inflateIfNeededFor_a7421_k 2 rfl) rfl (lv_at hl 0 rfl) ?_
    refine ggSB_1 hx hb hts hown hK hI hk0.1 q_t2_50 (dc tbJ5_inflateIfNeededFor_a7421_k 3 rfl) ?_
    refine lv_aload_n hx hb (dc tbJ5_inflateIfNeededFor_a7421_k 4 rfl) rfl (lv_at hl 1 rfl) ?_
    obtain ⟨r3, q2, hf⟩ := cap_s hf
    refine g_callVi hx hb hml hown hts hK hap hsx hI (tJ0_coder_7d493_ds l hk1 q2 H.size) cv_J0_coder_7d493_ds q_t4_40 rfl rfl ⟨Nat.le_of_ble_eq_true rfl, Nat.le_of_ble_eq_true rfl⟩ hk1.1 (by simp) rfl rfl rfl hl.1 rfl (Nat.le_of_ble_eq_true rfl) (dc tbJ5_inflateIfNeededFor_a7421_k 5 rfl) ⟨Nat.le_of_ble_eq_true rfl, Nat.le_of_ble_eq_true rfl⟩ (fun H locs hI => ?_)
    refine lv_icmp_eq (tgt := 21) hx hb (dc tbJ5_inflateIfNeededFor_a7421_k 6 rfl) rfl (fun c5 => ?_) (fun c5 => ?_)
    · have hf := ite_t c5 hf
      cases hf
      exact g_vret hx hb hr hlk hI (dc tbJ5_inflateIfNeededFor_a7421_k 9 rfl)
    · have hf := ite_f c5 hf
      refine lv_aload_n hx hb (dc tbJ5_inflateIfNeededFor_a7421_k 7 rfl) rfl (lv_at hl 0 rfl) ?_
      cases hf
def mJ5_putStringAt_47b60 (k0 : Nat) (a0 : Nat) (n0 : Nat) (k1 : Nat) (x1 : Int32) (M : Mem) : Option (Mem × Unit) := cap (mJ5_inflateIfNeededFor_a7421 k0 a0 n0 k1 M) (fun r2 => cal (mJ0_getBytes_840e7 k1 a0 n0 x1 (rd M k0 1) M) (fun M6 _ => some (M6, ())))
set_option maxHeartbeats 4000000 in
set_option maxRecDepth 100000 in
theorem tJ5_putStringAt_47b60 (l : Launch) {G : GT} {kd : Nat → Nat × Nat} {ad : Nat → Nat} {k0 : Nat} {a0 : Nat} {n0 : Nat} {k1 : Nat} (hk0 : kSb kd k0 a0 n0) (hk1 : k1 < 19) {x1 : Int32} {M : Mem} {MO : Mem} {vo : Unit} (hf : mJ5_putStringAt_47b60 k0 a0 n0 k1 x1 M = some (MO, vo)) (n : Nat) : Met l yJ5_putStringAt_47b60 (Cond.code yJ5_putStringAt_47b60 cJ5_putStringAt_47b60 3 none :: WA) (rmO 2 0 0) (Pg G kd ad n [.ref (ad k0), .int x1, .ref (G.2.2 (100 + k1))] M) (Qg G kd ad n MO none) 0 0 (AS kd ad n) := by
  refine g_body (own := RJ5) (by decide) rfl ?_ (Nat.le_of_ble_eq_true rfl)
  intro p e s m args below meth c C _ H locs ls hI hl
  obtain ⟨hx, hb, hml, hr, hown, hts, hlk, hK, hap, hsx⟩ := id C
  have hl : lv_has ls 3 [(0, .ref (ad k0)), (1, .int x1), (2, .ref (G.2.2 (100 + k1)))] := hl
  unfold mJ5_putStringAt_47b60 at hf
  refine lv_aload_n hx hb (dc tbJ5_putStringAt_47b60_k 0 rfl) rfl (lv_at hl 0 rfl) ?_
  refine lv_aload_n hx hb (dc tbJ5_putStringAt_47b60_k 1 rfl) rfl (lv_at hl 2 rfl) ?_
  obtain ⟨r2, q1, hf⟩ := cap_s hf
  refine g_callUv (n := 1) hx hb hml hown hts hK hap hsx hI (tJ5_inflateIfNeededFor_a7421 l hk0 hk1 q1 H.size) q_t4_36 q_t5_118 q_t4_38 q_t1_7 q_t4_39 q_wk_5 (by decide +kernel) rfl rfl ⟨Nat.le_of_ble_eq_true rfl, Nat.le_of_ble_eq_true rfl⟩ hk0.1 (by simp) rfl rfl rfl hl.1 rfl (Nat.le_of_ble_eq_true rfl) (dc tbJ5_putStringAt_47b60_k 2 rfl) ⟨Nat.le_of_ble_eq_true rfl, Nat.le_of_ble_eq_true rfl⟩ (fun H locs hI => ?_)
  refine lv_aload_n hx hb (dc tbJ5_putStringAt_47b60_k 3 rfl) rfl (lv_at hl 2 rfl) ?_
  refine lv_aload_n hx hb (dc tbJ5_putStringAt_47b60_k 4 rfl) rfl (lv_at hl 0 rfl) ?_
  refine ggSB_0 hx hb hts hown hK hI hk0.1 q_t2_49 (dc tbJ5_putStringAt_47b60_k 5 rfl) ?_
  refine lv_iload_n hx hb (dc tbJ5_putStringAt_47b60_k 6 rfl) rfl (lv_at hl 1 rfl) ?_
  refine lv_aload_n hx hb (dc tbJ5_putStringAt_47b60_k 7 rfl) rfl (lv_at hl 0 rfl) ?_
  refine ggSB_1 hx hb hts hown hK hI hk0.1 q_t2_50 (dc tbJ5_putStringAt_47b60_k 8 rfl) ?_
  obtain ⟨M6, r5, q4, hf⟩ := cal_s hf
  refine g_callTv hx hb hml hown hts hK hap hsx hI (tJ0_getBytes_840e7 l hk1 hk0.2 q4 H.size) cv_J0_getBytes_840e7 q_t4_60 rfl rfl ⟨Nat.le_of_ble_eq_true rfl, Nat.le_of_ble_eq_true rfl⟩ hk1 rfl hl.1 rfl (Nat.le_of_ble_eq_true rfl) (dc tbJ5_putStringAt_47b60_k 9 rfl) ⟨Nat.le_of_ble_eq_true rfl, Nat.le_of_ble_eq_true rfl⟩ (fun H locs hI => ?_)
  cases hf
  exact g_vret hx hb hr hlk hI (dc tbJ5_putStringAt_47b60_k 10 rfl)
def mJ5_putStringAt_47b60_ds (k0 : Nat) (a0 : Nat) (n0 : Nat) (k1 : Nat) (a1 : Nat) (n1 : Nat) (x1 : Int32) (M : Mem) : Option (Mem × Unit) := cap (mJ5_inflateIfNeededFor_a7421_ds k0 a0 n0 k1 a1 n1 M) (fun r2 => cal (mJ0_getBytes_840e7_ds k1 a1 n1 a0 n0 x1 (rd M k0 1) M) (fun M6 _ => some (M6, ())))
set_option maxHeartbeats 4000000 in
set_option maxRecDepth 100000 in
theorem tJ5_putStringAt_47b60_ds (l : Launch) {G : GT} {kd : Nat → Nat × Nat} {ad : Nat → Nat} {k0 : Nat} {a0 : Nat} {n0 : Nat} {k1 : Nat} {a1 : Nat} {n1 : Nat} (hk0 : kSb kd k0 a0 n0) (hk1 : kDs kd k1 a1 n1) {x1 : Int32} {M : Mem} {MO : Mem} {vo : Unit} (hf : mJ5_putStringAt_47b60_ds k0 a0 n0 k1 a1 n1 x1 M = some (MO, vo)) (n : Nat) : Met l yJ5_putStringAt_47b60 (Cond.code yJ5_putStringAt_47b60 cJ5_putStringAt_47b60 3 none :: WA) (rmO 2 0 0) (Pg G kd ad n [.ref (ad k0), .int x1, .ref (ad k1)] M) (Qg G kd ad n MO none) 0 0 (AS kd ad n) := by
  refine g_body (own := RJ5) (by decide) rfl ?_ (Nat.le_of_ble_eq_true rfl)
  intro p e s m args below meth c C _ H locs ls hI hl
  obtain ⟨hx, hb, hml, hr, hown, hts, hlk, hK, hap, hsx⟩ := id C
  have hl : lv_has ls 3 [(0, .ref (ad k0)), (1, .int x1), (2, .ref (ad k1))] := hl
  unfold mJ5_putStringAt_47b60_ds at hf
  refine lv_aload_n hx hb (dc tbJ5_putStringAt_47b60_k 0 rfl) rfl (lv_at hl 0 rfl) ?_
  refine lv_aload_n hx hb (dc tbJ5_putStringAt_47b60_k 1 rfl) rfl (lv_at hl 2 rfl) ?_
  obtain ⟨r2, q1, hf⟩ := cap_s hf
  refine g_callUv (n := 1) hx hb hml hown hts hK hap hsx hI (tJ5_inflateIfNeededFor_a7421_ds l hk0 hk1 q1 H.size) q_t4_36 q_t5_118 q_t4_38 q_t1_7 q_t4_39 q_wk_5 (by decide +kernel) rfl rfl ⟨Nat.le_of_ble_eq_true rfl, Nat.le_of_ble_eq_true rfl⟩ hk0.1 (by simp) rfl rfl rfl hl.1 rfl (Nat.le_of_ble_eq_true rfl) (dc tbJ5_putStringAt_47b60_k 2 rfl) ⟨Nat.le_of_ble_eq_true rfl, Nat.le_of_ble_eq_true rfl⟩ (fun H locs hI => ?_)
  refine lv_aload_n hx hb (dc tbJ5_putStringAt_47b60_k 3 rfl) rfl (lv_at hl 2 rfl) ?_
  refine lv_aload_n hx hb (dc tbJ5_putStringAt_47b60_k 4 rfl) rfl (lv_at hl 0 rfl) ?_
  refine ggSB_0 hx hb hts hown hK hI hk0.1 q_t2_49 (dc tbJ5_putStringAt_47b60_k 5 rfl) ?_
  refine lv_iload_n hx hb (dc tbJ5_putStringAt_47b60_k 6 rfl) rfl (lv_at hl 1 rfl) ?_
  refine lv_aload_n hx hb (dc tbJ5_putStringAt_47b60_k 7 rfl) rfl (lv_at hl 0 rfl) ?_
  refine ggSB_1 hx hb hts hown hK hI hk0.1 q_t2_50 (dc tbJ5_putStringAt_47b60_k 8 rfl) ?_
  obtain ⟨M6, r5, q4, hf⟩ := cal_s hf
  refine g_callVv hx hb hml hown hts hK hap hsx hI (tJ0_getBytes_840e7_ds l hk1 hk0.2 q4 H.size) cv_J0_getBytes_840e7_ds q_t4_60 rfl rfl ⟨Nat.le_of_ble_eq_true rfl, Nat.le_of_ble_eq_true rfl⟩ hk1.1 (by simp) rfl rfl rfl hl.1 rfl (Nat.le_of_ble_eq_true rfl) (dc tbJ5_putStringAt_47b60_k 9 rfl) ⟨Nat.le_of_ble_eq_true rfl, Nat.le_of_ble_eq_true rfl⟩ (fun H locs hI => ?_)
  cases hf
  exact g_vret hx hb hr hlk hI (dc tbJ5_putStringAt_47b60_k 10 rfl)
def mJ7_checkLength_df160 (x0 : Int32) (x1 : Int32) (M : Mem) : Option Unit := ite2 (x0 ≤ x1) (some ()) (none)
set_option maxHeartbeats 4000000 in
set_option maxRecDepth 100000 in
theorem tJ7_checkLength_df160 (l : Launch) {G : GT} {kd : Nat → Nat × Nat} {ad : Nat → Nat}  {x0 : Int32} {x1 : Int32} {M : Mem} {vo : Unit} (hf : mJ7_checkLength_df160  x0 x1 M = some vo) (n : Nat) : Met l yJ7_checkLength_df160 (Cond.code yJ7_checkLength_df160 cJ7_checkLength_df160 2 none :: WA) (rmO 0 0 0) (Pg G kd ad n [.int x0, .int x1] M) (Qg G kd ad n M none) 0 0 (AS kd ad n) := by
  refine g_body (own := RJ7) (by decide) rfl ?_ (Nat.le_of_ble_eq_true rfl)
  intro p e s m args below meth c C _ H locs ls hI hl
  obtain ⟨hx, hb, hml, hr, hown, hts, hlk, hK, hap, hsx⟩ := id C
  have hl : lv_has ls 2 [(0, .int x0), (1, .int x1)] := hl
  unfold mJ7_checkLength_df160 at hf
  refine lv_iload_n hx hb (dc tbJ7_checkLength_df160_k 0 rfl) rfl (lv_at hl 1 rfl) ?_
  refine lv_iload_n hx hb (dc tbJ7_checkLength_df160_k 1 rfl) rfl (lv_at hl 0 rfl) ?_
  refine lv_icmp_ge (tgt := 37) hx hb (dc tbJ7_checkLength_df160_k 2 rfl) rfl (fun c1 => ?_) (fun c1 => ?_)
  · have hf := ite_t c1 hf
    cases hf
    exact g_vret hx hb hr hlk hI (dc tbJ7_checkLength_df160_k 17 rfl)
  · have hf := ite_f c1 hf
    cases hf
theorem cs_J7_checkLength_df160 : csF yJ7_checkLength_df160 cJ7_checkLength_df160 2 none 2 := ⟨q_t4_127, q_t1_13, q_t4_128, by decide +kernel⟩
def mL_four_ds_b33 (k0 : Nat) (a0 : Nat) (n0 : Nat) (M : Mem) (ih4 : Int32 → Int32 → Int32 → Option Int32) (x1 : Int32) (x3 : Int32) (y0 : Int32) (y1 : Int32) : Option Int32 := bnd ((y0 ||| y1)) (fun x2_34 => bnd (x3 + (1 : Int32)) (fun x3_35 => ih4 x1 x2_34 x3_35))
set_option maxHeartbeats 4000000 in
set_option maxRecDepth 100000 in
theorem tL_four_ds_b33 {p : Program} {l : Launch} {e : Env} {s : State} {m : MethodId} {args : Array Value} {below : List Frame} {meth : Method} {c : Code} {G : GT} {kd : Nat → Nat × Nat} {ad : Nat → Nat} (C : Cx p s m args meth c cL_four 4 (some .int) RL G kd ad) {k0 : Nat} {a0 : Nat} {n0 : Nat} (hk0 : kDs kd k0 a0 n0) {M : Mem} {vo : Int32} {ih4 : Int32 → Int32 → Int32 → Option Int32} (hih4 : ∀ (x1 : Int32) (x2 : Int32) (x3 : Int32), ih4 x1 x2 x3 = some vo → At p l e (rmO 4 0 0) s m args below meth c 0 0 (MQ below (Qg G kd ad s.heap.size M (some (.int vo))) args s 0 0 (AS kd ad s.heap.size)) G kd ad 4 4 [(0, .ref (ad k0)), (1, .int x1), (2, .int x2), (3, .int x3)] [] M) : ∀ (x1 : Int32) (x3 : Int32) (y0 : Int32) (y1 : Int32), mL_four_ds_b33 k0 a0 n0 M ih4 x1 x3 y0 y1 = some vo → At p l e (rmO 4 0 0) s m args below meth c 0 0 (MQ below (Qg G kd ad s.heap.size M (some (.int vo))) args s 0 0 (AS kd ad s.heap.size)) G kd ad 4 33 [(0, .ref (ad k0)), (1, .int x1), (3, .int x3)] [.int y1, .int y0] M := by
  intro x1 x3 y0 y1 hf H locs ls hI hl
  obtain ⟨hx, hb, hml, hr, hown, hts, hlk, hK, hap, hsx⟩ := id C
  unfold mL_four_ds_b33 at hf
  refine lv_ior hx hb (dc tbL_four_k 21 rfl) ?_
  obtain ⟨x2_34, e6, hf⟩ := bnd_s hf
  refine lv_ei e6 ?_
  refine lv_istore_n (lv' := [(2, .int x2_34), (0, .ref (ad k0)), (1, .int x1), (3, .int x3)]) hx hb (dc tbL_four_k 22 rfl) rfl hl (by decide) rfl (fun ls hl => ?_)
  obtain ⟨x3_35, e7, hf⟩ := bnd_s hf
  refine lv_iinc (v := x3_35) (lv' := [(3, .int x3_35), (2, .int x2_34), (0, .ref (ad k0)), (1, .int x1)]) hx hb (dc tbL_four_k 23 rfl) hl (k := 3) rfl (ii_e e7 ic_1) (by decide) rfl (fun ls hl => ?_)
  refine lv_goto (tgt := 4) hx hb (dc tbL_four_k 24 rfl) rfl ?_
  exact hih4 x1 x2_34 x3_35 hf _ _ _ hI (lv_sub hl [2, 3, 1, 0] rfl)
def mL_four_ds_b4 (k0 : Nat) (a0 : Nat) (n0 : Nat) (M : Mem) (ih4 : Int32 → Int32 → Int32 → Option Int32) (x1 : Int32) (x2 : Int32) (x3 : Int32) : Option Int32 := ite2 ((x1 + (4 : Int32)) ≤ x3) (some x2) (cap (mJ0_length_8abf5_ds k0 a0 n0 M) (fun r3 => ite2 (r3 ≤ x3) (mL_four_ds_b33 k0 a0 n0 M ih4 x1 x3 (x2 <<< ((8 : Int32) &&& 31)) (32 : Int32)) (cap (mJ0_charAt_5068e_ds k0 a0 n0 x3 M) (fun r9 => mL_four_ds_b33 k0 a0 n0 M ih4 x1 x3 (x2 <<< ((8 : Int32) &&& 31)) r9))))
set_option maxHeartbeats 4000000 in
set_option maxRecDepth 100000 in
theorem tL_four_ds_b4 {p : Program} {l : Launch} {e : Env} {s : State} {m : MethodId} {args : Array Value} {below : List Frame} {meth : Method} {c : Code} {G : GT} {kd : Nat → Nat × Nat} {ad : Nat → Nat} (C : Cx p s m args meth c cL_four 4 (some .int) RL G kd ad) {k0 : Nat} {a0 : Nat} {n0 : Nat} (hk0 : kDs kd k0 a0 n0) {M : Mem} {vo : Int32} {ih4 : Int32 → Int32 → Int32 → Option Int32} (hih4 : ∀ (x1 : Int32) (x2 : Int32) (x3 : Int32), ih4 x1 x2 x3 = some vo → At p l e (rmO 4 0 0) s m args below meth c 0 0 (MQ below (Qg G kd ad s.heap.size M (some (.int vo))) args s 0 0 (AS kd ad s.heap.size)) G kd ad 4 4 [(0, .ref (ad k0)), (1, .int x1), (2, .int x2), (3, .int x3)] [] M) : ∀ (x1 : Int32) (x2 : Int32) (x3 : Int32), mL_four_ds_b4 k0 a0 n0 M ih4 x1 x2 x3 = some vo → At p l e (rmO 4 0 0) s m args below meth c 0 0 (MQ below (Qg G kd ad s.heap.size M (some (.int vo))) args s 0 0 (AS kd ad s.heap.size)) G kd ad 4 4 [(0, .ref (ad k0)), (1, .int x1), (2, .int x2), (3, .int x3)] [] M := by
  intro x1 x2 x3 hf H locs ls hI hl
  obtain ⟨hx, hb, hml, hr, hown, hts, hlk, hK, hap, hsx⟩ := id C
  unfold mL_four_ds_b4 at hf
  refine lv_iload_n hx hb (dc tbL_four_k 4 rfl) rfl (lv_at hl 3 rfl) ?_
  refine lv_iload_n hx hb (dc tbL_four_k 5 rfl) rfl (lv_at hl 1 rfl) ?_
  refine lv_iconst (v := 4) hx hb (dc tbL_four_k 6 rfl) ic_4 ?_
  refine lv_iadd hx hb (dc tbL_four_k 7 rfl) ?_
  refine lv_icmp_ge (tgt := 41) hx hb (dc tbL_four_k 8 rfl) rfl (fun c1 => ?_) (fun c1 => ?_)
  · have hf := ite_t c1 hf
    refine lv_iload_n hx hb (dc tbL_four_k 25 rfl) rfl (lv_at hl 2 rfl) ?_
    cases hf
    exact g_iret hx hb hr hlk hI (dc tbL_four_k 26 rfl)
  · have hf := ite_f c1 hf
    refine lv_iload_n hx hb (dc tbL_four_k 9 rfl) rfl (lv_at hl 2 rfl) ?_
    refine lv_bipush (v := 8) hx hb (dc tbL_four_k 10 rfl) bp_8 ?_
    refine lv_ishl hx hb (dc tbL_four_k 11 rfl) ?_
    refine lv_iload_n hx hb (dc tbL_four_k 12 rfl) rfl (lv_at hl 3 rfl) ?_
    refine lv_aload_n hx hb (dc tbL_four_k 13 rfl) rfl (lv_at hl 0 rfl) ?_
    obtain ⟨r3, q2, hf⟩ := cap_s hf
    refine g_callVi hx hb hml hown hts hK hap hsx hI (tJ0_length_8abf5_ds l hk0 q2 H.size) cv_J0_length_8abf5_ds q_t2_222 rfl rfl ⟨Nat.le_of_ble_eq_true rfl, Nat.le_of_ble_eq_true rfl⟩ hk0.1 (by simp) rfl rfl rfl hl.1 rfl (Nat.le_of_ble_eq_true rfl) (dc tbL_four_k 14 rfl) ⟨Nat.le_of_ble_eq_true rfl, Nat.le_of_ble_eq_true rfl⟩ (fun H locs hI => ?_)
    refine lv_icmp_ge (tgt := 31) hx hb (dc tbL_four_k 15 rfl) rfl (fun c5 => ?_) (fun c5 => ?_)
    · have hf := ite_t c5 hf
      refine lv_bipush (v := 32) hx hb (dc tbL_four_k 20 rfl) bp_32 ?_
      exact tL_four_ds_b33 C hk0 hih4 x1 x3 (x2 <<< ((8 : Int32) &&& 31)) (32 : Int32) hf _ _ _ hI (lv_sub hl [0, 1, 3] rfl)
    · have hf := ite_f c5 hf
      refine lv_aload_n hx hb (dc tbL_four_k 16 rfl) rfl (lv_at hl 0 rfl) ?_
      refine lv_iload_n hx hb (dc tbL_four_k 17 rfl) rfl (lv_at hl 3 rfl) ?_
      obtain ⟨r9, q8, hf⟩ := cap_s hf
      refine g_callVi hx hb hml hown hts hK hap hsx hI (tJ0_charAt_5068e_ds l hk0 q8 H.size) cv_J0_charAt_5068e_ds q_t2_234 rfl rfl ⟨Nat.le_of_ble_eq_true rfl, Nat.le_of_ble_eq_true rfl⟩ hk0.1 (by simp) rfl rfl rfl hl.1 rfl (Nat.le_of_ble_eq_true rfl) (dc tbL_four_k 18 rfl) ⟨Nat.le_of_ble_eq_true rfl, Nat.le_of_ble_eq_true rfl⟩ (fun H locs hI => ?_)
      refine lv_goto (tgt := 33) hx hb (dc tbL_four_k 19 rfl) rfl ?_
      exact tL_four_ds_b33 C hk0 hih4 x1 x3 (x2 <<< ((8 : Int32) &&& 31)) r9 hf _ _ _ hI (lv_sub hl [0, 1, 3] rfl)
def mL_four_ds_l4 (k0 : Nat) (a0 : Nat) (n0 : Nat) (M : Mem) : Nat → Int32 → Int32 → Int32 → Option Int32
  | 0 => fun _ _ _ => none
  | n + 1 => mL_four_ds_b4 k0 a0 n0 M (mL_four_ds_l4 k0 a0 n0 M n)
theorem tL_four_ds_l4 {p : Program} {l : Launch} {e : Env} {s : State} {m : MethodId} {args : Array Value} {below : List Frame} {meth : Method} {c : Code} {G : GT} {kd : Nat → Nat × Nat} {ad : Nat → Nat} (C : Cx p s m args meth c cL_four 4 (some .int) RL G kd ad) {k0 : Nat} {a0 : Nat} {n0 : Nat} (hk0 : kDs kd k0 a0 n0) {M : Mem} {vo : Int32}   : ∀ (fuel : Nat) (x1 : Int32) (x2 : Int32) (x3 : Int32), mL_four_ds_l4 k0 a0 n0 M fuel x1 x2 x3 = some vo → At p l e (rmO 4 0 0) s m args below meth c 0 0 (MQ below (Qg G kd ad s.heap.size M (some (.int vo))) args s 0 0 (AS kd ad s.heap.size)) G kd ad 4 4 [(0, .ref (ad k0)), (1, .int x1), (2, .int x2), (3, .int x3)] [] M := by
  intro fuel
  induction fuel with
  | zero => intro x1 x2 x3 hf; cases hf
  | succ n IH => exact tL_four_ds_b4 C hk0 IH
def mL_four_ds (k0 : Nat) (a0 : Nat) (n0 : Nat) (x1 : Int32) (M : Mem) : Option Int32 := mL_four_ds_l4 k0 a0 n0 M 5000 x1 (0 : Int32) x1
set_option maxHeartbeats 4000000 in
set_option maxRecDepth 100000 in
theorem tL_four_ds (l : Launch) {G : GT} {kd : Nat → Nat × Nat} {ad : Nat → Nat} {k0 : Nat} {a0 : Nat} {n0 : Nat} (hk0 : kDs kd k0 a0 n0) {x1 : Int32} {M : Mem} {vo : Int32} (hf : mL_four_ds k0 a0 n0 x1 M = some vo) (n : Nat) : Met l yL_four (Cond.code yL_four cL_four 4 (some .int) :: WA) (rmO 4 0 0) (Pg G kd ad n [.ref (ad k0), .int x1] M) (Qg G kd ad n M (some (.int vo))) 0 0 (AS kd ad n) := by
  refine g_body (own := RL) (by decide) rfl ?_ (Nat.le_of_ble_eq_true rfl)
  intro p e s m args below meth c C _ H locs ls hI hl
  obtain ⟨hx, hb, hml, hr, hown, hts, hlk, hK, hap, hsx⟩ := id C
  have hl : lv_has ls 4 [(0, .ref (ad k0)), (1, .int x1)] := hl
  unfold mL_four_ds at hf
  refine lv_iconst (v := 0) hx hb (dc tbL_four_k 0 rfl) ic_0 ?_
  refine lv_istore_n (lv' := [(2, .int (0 : Int32)), (0, .ref (ad k0)), (1, .int x1)]) hx hb (dc tbL_four_k 1 rfl) rfl hl (by decide) rfl (fun ls hl => ?_)
  refine lv_iload_n hx hb (dc tbL_four_k 2 rfl) rfl (lv_at hl 2 rfl) ?_
  refine lv_istore_n (lv' := [(3, .int x1), (2, .int (0 : Int32)), (0, .ref (ad k0)), (1, .int x1)]) hx hb (dc tbL_four_k 3 rfl) rfl hl (by decide) rfl (fun ls hl => ?_)
  exact tL_four_ds_l4 C hk0 5000 x1 (0 : Int32) x1 hf _ _ _ hI (lv_sub hl [2, 3, 1, 0] rfl)
theorem cs_L_four_ds : csF yL_four cL_four 4 (some .int) 2 := ⟨q_t2_232, q_t1_0, q_t2_233, by decide +kernel⟩
def mL_load_ds_b2 (k0 : Nat) (k1 : Nat) (a1 : Nat) (n1 : Nat) (ih2 : Int32 → Mem → Option (Mem × (Int32 ⊕ Nat))) (x2 : Int32) (M : Mem) : Option (Mem × (Int32 ⊕ Nat)) := cap (mJ0_length_8abf5_ds k1 a1 n1 M) (fun r2 => ite2 (r2 ≤ x2) (cap (mJ0_length_8abf5_ds k1 a1 n1 M) (fun r6 => calx (mX6_load k0 r6 M) (fun M10 r9 => some (M10, Sum.inl r9)))) (cap (mL_four_ds k1 a1 n1 x2 M) (fun r12 => cap (mL_four_ds k1 a1 n1 (x2 + (4 : Int32)) M) (fun r15 => cap (mL_four_ds k1 a1 n1 (x2 + (8 : Int32)) M) (fun r18 => cap (mL_four_ds k1 a1 n1 (x2 + (12 : Int32)) M) (fun r21 => cap (mL_four_ds k1 a1 n1 (x2 + (16 : Int32)) M) (fun r24 => cal (mX6_feed k0 r12 r15 r18 r21 r24 M) (fun M28 r27 => bnd (x2 + (20 : Int32)) (fun x2_51 => ih2 x2_51 M28)))))))))
set_option maxHeartbeats 4000000 in
set_option maxRecDepth 100000 in
theorem tL_load_ds_nt_b2 {p : Program} {l : Launch} {e : Env} {s : State} {m : MethodId} {args : Array Value} {below : List Frame} {meth : Method} {c : Code} {G : GT} {kd : Nat → Nat × Nat} {ad : Nat → Nat} (C : Cx p s m args meth c cL_load 3 (some .int) RL G kd ad) {k0 : Nat} {k1 : Nat} {a1 : Nat} {n1 : Nat} (hk0 : kRoot kd k0) (hk1 : kDs kd k1 a1 n1) {MO : Mem} {vo : Int32} {ih2 : Int32 → Mem → Option (Mem × (Int32 ⊕ Nat))} (hih2 : ∀ (x2 : Int32) (M : Mem), ih2 x2 M = some (MO, Sum.inl vo) → At p l e (rmO 9 0 0) s m args below meth c 0 0 (MQ below (Qg G kd ad s.heap.size MO (some (.int vo))) args s 0 0 (AS kd ad s.heap.size)) G kd ad 3 2 [(0, .ref (ad k0)), (1, .ref (ad k1)), (2, .int x2)] [] M) : ∀ (x2 : Int32) (M : Mem), mL_load_ds_b2 k0 k1 a1 n1 ih2 x2 M = some (MO, Sum.inl vo) → At p l e (rmO 9 0 0) s m args below meth c 0 0 (MQ below (Qg G kd ad s.heap.size MO (some (.int vo))) args s 0 0 (AS kd ad s.heap.size)) G kd ad 3 2 [(0, .ref (ad k0)), (1, .ref (ad k1)), (2, .int x2)] [] M := by
  intro x2 M hf H locs ls hI hl
  obtain ⟨hx, hb, hml, hr, hown, hts, hlk, hK, hap, hsx⟩ := id C
  unfold mL_load_ds_b2 at hf
  refine lv_iload_n hx hb (dc tbL_load_k 2 rfl) rfl (lv_at hl 2 rfl) ?_
  refine lv_aload_n hx hb (dc tbL_load_k 3 rfl) rfl (lv_at hl 1 rfl) ?_
  obtain ⟨r2, q1, hf⟩ := cap_s hf
  refine g_callVi hx hb hml hown hts hK hap hsx hI (tJ0_length_8abf5_ds l hk1 q1 H.size) cv_J0_length_8abf5_ds q_t2_222 rfl rfl ⟨Nat.le_of_ble_eq_true rfl, Nat.le_of_ble_eq_true rfl⟩ hk1.1 (by simp) rfl rfl rfl hl.1 rfl (Nat.le_of_ble_eq_true rfl) (dc tbL_load_k 4 rfl) ⟨Nat.le_of_ble_eq_true rfl, Nat.le_of_ble_eq_true rfl⟩ (fun H locs hI => ?_)
  refine lv_icmp_ge (tgt := 57) hx hb (dc tbL_load_k 5 rfl) rfl (fun c4 => ?_) (fun c4 => ?_)
  · have hf := ite_t c4 hf
    refine lv_aload_n hx hb (dc tbL_load_k 34 rfl) rfl (lv_at hl 0 rfl) ?_
    refine lv_aload_n hx hb (dc tbL_load_k 35 rfl) rfl (lv_at hl 1 rfl) ?_
    obtain ⟨r6, q5, hf⟩ := cap_s hf
    refine g_callVi hx hb hml hown hts hK hap hsx hI (tJ0_length_8abf5_ds l hk1 q5 H.size) cv_J0_length_8abf5_ds q_t2_222 rfl rfl ⟨Nat.le_of_ble_eq_true rfl, Nat.le_of_ble_eq_true rfl⟩ hk1.1 (by simp) rfl rfl rfl hl.1 rfl (Nat.le_of_ble_eq_true rfl) (dc tbL_load_k 36 rfl) ⟨Nat.le_of_ble_eq_true rfl, Nat.le_of_ble_eq_true rfl⟩ (fun H locs hI => ?_)
    obtain ⟨M10, r9, q8, hf⟩ := calx_n hf
    refine g_callVi hx hb hml hown hts hK hap hsx hI (tX6_load_nt l hk0 q8 H.size) cv_X6_load q_t3_40 rfl rfl ⟨Nat.le_of_ble_eq_true rfl, Nat.le_of_ble_eq_true rfl⟩ hk0.1 (by simp) rfl rfl rfl hl.1 rfl (Nat.le_of_ble_eq_true rfl) (dc tbL_load_k 37 rfl) ⟨Nat.le_of_ble_eq_true rfl, Nat.le_of_ble_eq_true rfl⟩ (fun H locs hI => ?_)
    cases hf
    exact g_iret hx hb hr hlk hI (dc tbL_load_k 38 rfl)
  · have hf := ite_f c4 hf
    refine lv_aload_n hx hb (dc tbL_load_k 6 rfl) rfl (lv_at hl 0 rfl) ?_
    refine lv_aload_n hx hb (dc tbL_load_k 7 rfl) rfl (lv_at hl 1 rfl) ?_
    refine lv_iload_n hx hb (dc tbL_load_k 8 rfl) rfl (lv_at hl 2 rfl) ?_
    obtain ⟨r12, q11, hf⟩ := cap_s hf
    refine g_callSi hx hb hml hown hts hK hap hsx hI (tL_four_ds l hk1 q11 H.size) cs_L_four_ds q_t2_231 rfl rfl ⟨Nat.le_of_ble_eq_true rfl, Nat.le_of_ble_eq_true rfl⟩ rfl hl.1 rfl (Nat.le_of_ble_eq_true rfl) (dc tbL_load_k 9 rfl) ⟨Nat.le_of_ble_eq_true rfl, Nat.le_of_ble_eq_true rfl⟩ (fun H locs hI => ?_)
    refine lv_aload_n hx hb (dc tbL_load_k 10 rfl) rfl (lv_at hl 1 rfl) ?_
    refine lv_iload_n hx hb (dc tbL_load_k 11 rfl) rfl (lv_at hl 2 rfl) ?_
    refine lv_iconst (v := 4) hx hb (dc tbL_load_k 12 rfl) ic_4 ?_
    refine lv_iadd hx hb (dc tbL_load_k 13 rfl) ?_
    obtain ⟨r15, q14, hf⟩ := cap_s hf
    refine g_callSi hx hb hml hown hts hK hap hsx hI (tL_four_ds l hk1 q14 H.size) cs_L_four_ds q_t2_231 rfl rfl ⟨Nat.le_of_ble_eq_true rfl, Nat.le_of_ble_eq_true rfl⟩ rfl hl.1 rfl (Nat.le_of_ble_eq_true rfl) (dc tbL_load_k 14 rfl) ⟨Nat.le_of_ble_eq_true rfl, Nat.le_of_ble_eq_true rfl⟩ (fun H locs hI => ?_)
    refine lv_aload_n hx hb (dc tbL_load_k 15 rfl) rfl (lv_at hl 1 rfl) ?_
    refine lv_iload_n hx hb (dc tbL_load_k 16 rfl) rfl (lv_at hl 2 rfl) ?_
    refine lv_bipush (v := 8) hx hb (dc tbL_load_k 17 rfl) bp_8 ?_
    refine lv_iadd hx hb (dc tbL_load_k 18 rfl) ?_
    obtain ⟨r18, q17, hf⟩ := cap_s hf
    refine g_callSi hx hb hml hown hts hK hap hsx hI (tL_four_ds l hk1 q17 H.size) cs_L_four_ds q_t2_231 rfl rfl ⟨Nat.le_of_ble_eq_true rfl, Nat.le_of_ble_eq_true rfl⟩ rfl hl.1 rfl (Nat.le_of_ble_eq_true rfl) (dc tbL_load_k 19 rfl) ⟨Nat.le_of_ble_eq_true rfl, Nat.le_of_ble_eq_true rfl⟩ (fun H locs hI => ?_)
    refine lv_aload_n hx hb (dc tbL_load_k 20 rfl) rfl (lv_at hl 1 rfl) ?_
    refine lv_iload_n hx hb (dc tbL_load_k 21 rfl) rfl (lv_at hl 2 rfl) ?_
    refine lv_bipush (v := 12) hx hb (dc tbL_load_k 22 rfl) bp_12 ?_
    refine lv_iadd hx hb (dc tbL_load_k 23 rfl) ?_
    obtain ⟨r21, q20, hf⟩ := cap_s hf
    refine g_callSi hx hb hml hown hts hK hap hsx hI (tL_four_ds l hk1 q20 H.size) cs_L_four_ds q_t2_231 rfl rfl ⟨Nat.le_of_ble_eq_true rfl, Nat.le_of_ble_eq_true rfl⟩ rfl hl.1 rfl (Nat.le_of_ble_eq_true rfl) (dc tbL_load_k 24 rfl) ⟨Nat.le_of_ble_eq_true rfl, Nat.le_of_ble_eq_true rfl⟩ (fun H locs hI => ?_)
    refine lv_aload_n hx hb (dc tbL_load_k 25 rfl) rfl (lv_at hl 1 rfl) ?_
    refine lv_iload_n hx hb (dc tbL_load_k 26 rfl) rfl (lv_at hl 2 rfl) ?_
    refine lv_bipush (v := 16) hx hb (dc tbL_load_k 27 rfl) bp_16 ?_
    refine lv_iadd hx hb (dc tbL_load_k 28 rfl) ?_
    obtain ⟨r24, q23, hf⟩ := cap_s hf
    refine g_callSi hx hb hml hown hts hK hap hsx hI (tL_four_ds l hk1 q23 H.size) cs_L_four_ds q_t2_231 rfl rfl ⟨Nat.le_of_ble_eq_true rfl, Nat.le_of_ble_eq_true rfl⟩ rfl hl.1 rfl (Nat.le_of_ble_eq_true rfl) (dc tbL_load_k 29 rfl) ⟨Nat.le_of_ble_eq_true rfl, Nat.le_of_ble_eq_true rfl⟩ (fun H locs hI => ?_)
    obtain ⟨M28, r27, q26, hf⟩ := cal_s hf
    refine g_callVi hx hb hml hown hts hK hap hsx hI (tX6_feed l hk0 q26 H.size) cv_X6_feed q_t3_32 rfl rfl ⟨Nat.le_of_ble_eq_true rfl, Nat.le_of_ble_eq_true rfl⟩ hk0.1 (by simp) rfl rfl rfl hl.1 rfl (Nat.le_of_ble_eq_true rfl) (dc tbL_load_k 30 rfl) ⟨Nat.le_of_ble_eq_true rfl, Nat.le_of_ble_eq_true rfl⟩ (fun H locs hI => ?_)
    refine lv_pop hx hb (dc tbL_load_k 31 rfl) rfl ?_
    obtain ⟨x2_51, e29, hf⟩ := bnd_s hf
    refine lv_iinc (v := x2_51) (lv' := [(2, .int x2_51), (0, .ref (ad k0)), (1, .ref (ad k1))]) hx hb (dc tbL_load_k 32 rfl) hl (k := 2) rfl (ii_e e29 ic_20) (by decide) rfl (fun ls hl => ?_)
    refine lv_goto (tgt := 2) hx hb (dc tbL_load_k 33 rfl) rfl ?_
    exact hih2 x2_51 M28 hf _ _ _ hI (lv_sub hl [1, 2, 0] rfl)
def mL_load_ds_l2 (k0 : Nat) (k1 : Nat) (a1 : Nat) (n1 : Nat) : Nat → Int32 → Mem → Option (Mem × (Int32 ⊕ Nat))
  | 0 => fun _ _ => none
  | n + 1 => mL_load_ds_b2 k0 k1 a1 n1 (mL_load_ds_l2 k0 k1 a1 n1 n)
theorem tL_load_ds_nt_l2 {p : Program} {l : Launch} {e : Env} {s : State} {m : MethodId} {args : Array Value} {below : List Frame} {meth : Method} {c : Code} {G : GT} {kd : Nat → Nat × Nat} {ad : Nat → Nat} (C : Cx p s m args meth c cL_load 3 (some .int) RL G kd ad) {k0 : Nat} {k1 : Nat} {a1 : Nat} {n1 : Nat} (hk0 : kRoot kd k0) (hk1 : kDs kd k1 a1 n1) {MO : Mem} {vo : Int32}   : ∀ (fuel : Nat) (x2 : Int32) (M : Mem), mL_load_ds_l2 k0 k1 a1 n1 fuel x2 M = some (MO, Sum.inl vo) → At p l e (rmO 9 0 0) s m args below meth c 0 0 (MQ below (Qg G kd ad s.heap.size MO (some (.int vo))) args s 0 0 (AS kd ad s.heap.size)) G kd ad 3 2 [(0, .ref (ad k0)), (1, .ref (ad k1)), (2, .int x2)] [] M := by
  intro fuel
  induction fuel with
  | zero => intro x2 M hf; cases hf
  | succ n IH => exact tL_load_ds_nt_b2 C hk0 hk1 IH
def mL_load_ds (k0 : Nat) (k1 : Nat) (a1 : Nat) (n1 : Nat) (M : Mem) : Option (Mem × (Int32 ⊕ Nat)) := mL_load_ds_l2 k0 k1 a1 n1 5000 (0 : Int32) M
set_option maxHeartbeats 4000000 in
set_option maxRecDepth 100000 in
theorem tL_load_ds_nt (l : Launch) {G : GT} {kd : Nat → Nat × Nat} {ad : Nat → Nat} {k0 : Nat} {k1 : Nat} {a1 : Nat} {n1 : Nat} (hk0 : kRoot kd k0) (hk1 : kDs kd k1 a1 n1) {M : Mem} {MO : Mem} {vo : Int32} (hf : mL_load_ds k0 k1 a1 n1 M = some (MO, Sum.inl vo)) (n : Nat) : Met l yL_load (Cond.code yL_load cL_load 3 (some .int) :: WA) (rmO 9 0 0) (Pg G kd ad n [.ref (ad k0), .ref (ad k1)] M) (Qg G kd ad n MO (some (.int vo))) 0 0 (AS kd ad n) := by
  refine g_body (own := RL) (by decide) rfl ?_ (Nat.le_of_ble_eq_true rfl)
  intro p e s m args below meth c C _ H locs ls hI hl
  obtain ⟨hx, hb, hml, hr, hown, hts, hlk, hK, hap, hsx⟩ := id C
  have hl : lv_has ls 3 [(0, .ref (ad k0)), (1, .ref (ad k1))] := hl
  unfold mL_load_ds at hf
  refine lv_iconst (v := 0) hx hb (dc tbL_load_k 0 rfl) ic_0 ?_
  refine lv_istore_n (lv' := [(2, .int (0 : Int32)), (0, .ref (ad k0)), (1, .ref (ad k1))]) hx hb (dc tbL_load_k 1 rfl) rfl hl (by decide) rfl (fun ls hl => ?_)
  exact tL_load_ds_nt_l2 C hk0 hk1 5000 (0 : Int32) M hf _ _ _ hI (lv_sub hl [1, 2, 0] rfl)
theorem cs_L_load_ds_nt : csF yL_load cL_load 3 (some .int) 2 := ⟨q_t2_220, q_t1_0, q_t2_221, by decide +kernel⟩
