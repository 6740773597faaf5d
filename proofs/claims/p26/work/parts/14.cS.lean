def mJ3_checkIndex_8e157_b9 (M : Mem) : Option Int32 := none
set_option maxHeartbeats 4000000 in
set_option maxRecDepth 100000 in
theorem tJ3_checkIndex_8e157_b9 {p : Program} {l : Launch} {e : Env} {s : State} {m : MethodId} {args : Array Value} {below : List Frame} {meth : Method} {c : Code} {G : GT} {kd : Nat → Nat × Nat} {ad : Nat → Nat} (C : Cx p s m args meth c cJ3_checkIndex_8e157 3 (some .int) RJ3 G kd ad)  {M : Mem} {vo : Int32}   : mJ3_checkIndex_8e157_b9  M = some vo → At p l e (rmO 0 0 0) s m args below meth c 0 0 (MQ below (Qg G kd ad s.heap.size M (some (.int vo))) args s 0 0 (AS kd ad s.heap.size)) G kd ad 3 9 [] [] M := by
  intro hf H locs ls hI hl
  obtain ⟨hx, hb, hml, hr, hown, hts, hlk, hK, hap, hsx⟩ := id C
  unfold mJ3_checkIndex_8e157_b9 at hf
  cases hf
def mJ3_checkIndex_8e157 (x0 : Int32) (x1 : Int32) (M : Mem) : Option Int32 := ite2 (x0 < 0) (mJ3_checkIndex_8e157_b9  M) (ite2 (x0 < x1) (some x0) (mJ3_checkIndex_8e157_b9  M))
set_option maxHeartbeats 4000000 in
set_option maxRecDepth 100000 in
theorem tJ3_checkIndex_8e157 (l : Launch) {G : GT} {kd : Nat → Nat × Nat} {ad : Nat → Nat}  {x0 : Int32} {x1 : Int32} {o2 : Value} (ho2 : o2.category = 1) {M : Mem} {vo : Int32} (hf : mJ3_checkIndex_8e157  x0 x1 M = some vo) (n : Nat) : Met l yJ3_checkIndex_8e157 (Cond.code yJ3_checkIndex_8e157 cJ3_checkIndex_8e157 3 (some .int) :: WA) (rmO 0 0 0) (Pg G kd ad n [.int x0, .int x1, o2] M) (Qg G kd ad n M (some (.int vo))) 0 0 (AS kd ad n) := by
  refine g_body (own := RJ3) (by decide) rfl ?_ (sl_3 ho2)
  intro p e s m args below meth c C _ H locs ls hI hl
  obtain ⟨hx, hb, hml, hr, hown, hts, hlk, hK, hap, hsx⟩ := id C
  have hl : lv_has ls 3 [(0, .int x0), (1, .int x1), (2, o2)] := hl
  unfold mJ3_checkIndex_8e157 at hf
  refine lv_iload_n hx hb (dc tbJ3_checkIndex_8e157_k 0 rfl) rfl (lv_at hl 0 rfl) ?_
  refine lv_if_lt (tgt := 9) hx hb (dc tbJ3_checkIndex_8e157_k 1 rfl) rfl (fun c1 => ?_) (fun c1 => ?_)
  · have hf := ite_t c1 hf
    exact tJ3_checkIndex_8e157_b9 C  hf _ _ _ hI (lv_sub hl [] rfl)
  · have hf := ite_f c1 hf
    refine lv_iload_n hx hb (dc tbJ3_checkIndex_8e157_k 2 rfl) rfl (lv_at hl 0 rfl) ?_
    refine lv_iload_n hx hb (dc tbJ3_checkIndex_8e157_k 3 rfl) rfl (lv_at hl 1 rfl) ?_
    refine lv_icmp_lt (tgt := 16) hx hb (dc tbJ3_checkIndex_8e157_k 4 rfl) rfl (fun c2 => ?_) (fun c2 => ?_)
    · have hf := ite_t c2 hf
      refine lv_iload_n hx hb (dc tbJ3_checkIndex_8e157_k 10 rfl) rfl (lv_at hl 0 rfl) ?_
      cases hf
      exact g_iret hx hb hr hlk hI (dc tbJ3_checkIndex_8e157_k 11 rfl)
    · have hf := ite_f c2 hf
      exact tJ3_checkIndex_8e157_b9 C  hf _ _ _ hI (lv_sub hl [] rfl)
theorem cs_J3_checkIndex_8e157 : csF yJ3_checkIndex_8e157 cJ3_checkIndex_8e157 3 (some .int) 3 := ⟨q_t5_92, q_t1_19, q_t5_93, by decide +kernel⟩
def mJ0_checkIndex_df160 (x0 : Int32) (x1 : Int32) (M : Mem) : Option Unit := cap (mJ3_checkIndex_8e157 x0 x1 M) (fun r3 => some ())
set_option maxHeartbeats 4000000 in
set_option maxRecDepth 100000 in
theorem tJ0_checkIndex_df160 (l : Launch) {G : GT} {kd : Nat → Nat × Nat} {ad : Nat → Nat}  {x0 : Int32} {x1 : Int32} {M : Mem} {vo : Unit} (hf : mJ0_checkIndex_df160  x0 x1 M = some vo) (n : Nat) : Met l yJ0_checkIndex_df160 (Cond.code yJ0_checkIndex_df160 cJ0_checkIndex_df160 2 none :: WA) (rmO 1 0 0) (Pg G kd ad n [.int x0, .int x1] M) (Qg G kd ad n M none) 0 0 (AS kd ad n) := by
  refine g_body (own := RJ0) (by decide) rfl ?_ (Nat.le_of_ble_eq_true rfl)
  intro p e s m args below meth c C _ H locs ls hI hl
  obtain ⟨hx, hb, hml, hr, hown, hts, hlk, hK, hap, hsx⟩ := id C
  have hl : lv_has ls 2 [(0, .int x0), (1, .int x1)] := hl
  unfold mJ0_checkIndex_df160 at hf
  refine lv_iload_n hx hb (dc tbJ0_checkIndex_df160_k 0 rfl) rfl (lv_at hl 0 rfl) ?_
  refine lv_iload_n hx hb (dc tbJ0_checkIndex_df160_k 1 rfl) rfl (lv_at hl 1 rfl) ?_
  refine g_gsfm hx hb hown hts hsx hI q_t4_41 (dc tbJ0_checkIndex_df160_k 2 rfl) (fun fv1 hfv1 => ?_)
  obtain ⟨r3, q2, hf⟩ := cap_s hf
  refine g_callSi hx hb hml hown hts hK hap hsx hI (tJ3_checkIndex_8e157 l hfv1 q2 H.size) cs_J3_checkIndex_8e157 q_t5_91 rfl rfl ⟨Nat.le_of_ble_eq_true rfl, Nat.le_of_ble_eq_true rfl⟩ rfl hl.1 rfl (Nat.le_of_ble_eq_true rfl) (dc tbJ0_checkIndex_df160_k 3 rfl) ⟨Nat.le_of_ble_eq_true rfl, Nat.le_of_ble_eq_true rfl⟩ (fun H locs hI => ?_)
  refine lv_pop hx hb (dc tbJ0_checkIndex_df160_k 4 rfl) rfl ?_
  cases hf
  exact g_vret hx hb hr hlk hI (dc tbJ0_checkIndex_df160_k 5 rfl)
theorem cs_J0_checkIndex_df160 : csF yJ0_checkIndex_df160 cJ0_checkIndex_df160 2 none 2 := ⟨q_t5_89, q_t1_9, q_t5_90, by decide +kernel⟩
def mJ1_charAt_3b067 (k0 : Nat) (x1 : Int32) (M : Mem) : Option Int32 := cap (mJ0_checkIndex_df160 x1 (Int32.ofNat (stLen k0)) M) (fun r2 => chk (okb x1 (stLen k0)) (chk (isC (((((stB k0).getD (x1).toNatClampNeg 0) &&& (255 : Int32))).toUInt32 % 65536).toInt32) (some (((((stB k0).getD (x1).toNatClampNeg 0) &&& (255 : Int32))).toUInt32 % 65536).toInt32)))
set_option maxHeartbeats 4000000 in
set_option maxRecDepth 100000 in
theorem tJ1_charAt_3b067 (l : Launch) {G : GT} {kd : Nat → Nat × Nat} {ad : Nat → Nat} {k0 : Nat} (hk0 : k0 < 12) {x1 : Int32} {M : Mem} {vo : Int32} (hf : mJ1_charAt_3b067 k0 x1 M = some vo) (n : Nat) : Met l yJ1_charAt_3b067 (Cond.code yJ1_charAt_3b067 cJ1_charAt_3b067 2 (some .char) :: WA) (rmO 2 0 0) (Pg G kd ad n [.ref (G.2.2 (200 + k0)), .int x1] M) (Qg G kd ad n M (some (.int vo))) 0 0 (AS kd ad n) := by
  refine g_body (own := RJ1) (by decide) rfl ?_ (Nat.le_of_ble_eq_true rfl)
  intro p e s m args below meth c C _ H locs ls hI hl
  obtain ⟨hx, hb, hml, hr, hown, hts, hlk, hK, hap, hsx⟩ := id C
  have hl : lv_has ls 2 [(0, .ref (G.2.2 (200 + k0))), (1, .int x1)] := hl
  unfold mJ1_charAt_3b067 at hf
  refine lv_iload_n hx hb (dc tbJ1_charAt_3b067_k 0 rfl) rfl (lv_at hl 1 rfl) ?_
  refine lv_aload_n hx hb (dc tbJ1_charAt_3b067_k 1 rfl) rfl (lv_at hl 0 rfl) ?_
  refine g_svlen hx hb hsx hI hk0 (dc tbJ1_charAt_3b067_k 2 rfl) ?_
  obtain ⟨r2, q1, hf⟩ := cap_s hf
  refine g_callSv hx hb hml hown hts hK hap hsx hI (tJ0_checkIndex_df160 l  q1 H.size) cs_J0_checkIndex_df160 q_t5_161 rfl rfl ⟨Nat.le_of_ble_eq_true rfl, Nat.le_of_ble_eq_true rfl⟩ rfl hl.1 rfl (Nat.le_of_ble_eq_true rfl) (dc tbJ1_charAt_3b067_k 3 rfl) ⟨Nat.le_of_ble_eq_true rfl, Nat.le_of_ble_eq_true rfl⟩ (fun H locs hI => ?_)
  refine lv_aload_n hx hb (dc tbJ1_charAt_3b067_k 4 rfl) rfl (lv_at hl 0 rfl) ?_
  refine lv_iload_n hx hb (dc tbJ1_charAt_3b067_k 5 rfl) rfl (lv_at hl 1 rfl) ?_
  obtain ⟨h4, hf⟩ := chk_s hf
  refine g_svld hx hb hsx hI hk0 (okb_in h4) (dc tbJ1_charAt_3b067_k 6 rfl) ?_
  refine lv_sipush (v := 255) hx hb (dc tbJ1_charAt_3b067_k 7 rfl) sp_255 ?_
  refine lv_iand hx hb (dc tbJ1_charAt_3b067_k 8 rfl) ?_
  refine lv_i2c hx hb (dc tbJ1_charAt_3b067_k 9 rfl) rfl ?_
  obtain ⟨h5, hf⟩ := chk_s hf
  cases hf
  exact g_zret hx hb hr hlk hI (isC_n h5) (dc tbJ1_charAt_3b067_k 10 rfl)
theorem cs_J1_charAt_3b067 : csF yJ1_charAt_3b067 cJ1_charAt_3b067 2 (some .char) 2 := ⟨q_t5_159, q_t1_18, q_t5_160, by decide +kernel⟩
def mJ0_coder_7d493 (k0 : Nat) (M : Mem) : Option Int32 := ite2 ((1 : Int32) = 0) (some (1 : Int32)) (some (0 : Int32))
set_option maxHeartbeats 4000000 in
set_option maxRecDepth 100000 in
theorem tJ0_coder_7d493 (l : Launch) {G : GT} {kd : Nat → Nat × Nat} {ad : Nat → Nat} {k0 : Nat} (hk0 : k0 < 12) {M : Mem} {vo : Int32} (hf : mJ0_coder_7d493 k0 M = some vo) (n : Nat) : Met l yJ0_coder_7d493 (Cond.code yJ0_coder_7d493 cJ0_coder_7d493 1 (some .byte) :: WA) (rmO 0 0 0) (Pg G kd ad n [.ref (G.2.2 (100 + k0))] M) (Qg G kd ad n M (some (.int vo))) 0 0 (AS kd ad n) := by
  refine g_body (own := RJ0) (by decide) rfl ?_ (Nat.le_of_ble_eq_true rfl)
  intro p e s m args below meth c C _ H locs ls hI hl
  obtain ⟨hx, hb, hml, hr, hown, hts, hlk, hK, hap, hsx⟩ := id C
  have hl : lv_has ls 1 [(0, .ref (G.2.2 (100 + k0)))] := hl
  unfold mJ0_coder_7d493 at hf
  refine g_gscs hx hb hown hts hsx hI q_t4_63 (dc tbJ0_coder_7d493_k 0 rfl) ?_
  refine lv_if_eq (tgt := 13) hx hb (dc tbJ0_coder_7d493_k 1 rfl) rfl (fun c1 => ?_) (fun c1 => ?_)
  · have hf := ite_t c1 hf
    refine lv_iconst (v := 1) hx hb (dc tbJ0_coder_7d493_k 5 rfl) ic_1 ?_
    cases hf
    exact g_zret hx hb hr hlk hI rfl (dc tbJ0_coder_7d493_k 6 rfl)
  · have hf := ite_f c1 hf
    refine lv_aload_n hx hb (dc tbJ0_coder_7d493_k 2 rfl) rfl (lv_at hl 0 rfl) ?_
    refine g_scod hx hb hown hts hsx hI hk0 q_t5_7 (dc tbJ0_coder_7d493_k 3 rfl) ?_
    refine lv_goto (tgt := 14) hx hb (dc tbJ0_coder_7d493_k 4 rfl) rfl ?_
    cases hf
    exact g_zret hx hb hr hlk hI rfl (dc tbJ0_coder_7d493_k 6 rfl)
theorem cv_J0_coder_7d493 : cvF RJ0 yJ0_coder_7d493 cJ0_coder_7d493 1 (some .byte) 0 := ⟨q_t4_60, q_t4_61, q_t1_9, q_t4_62, by decide +kernel⟩
def mJ0_isLatin1_aae02 (k0 : Nat) (M : Mem) : Option Int32 := ite2 ((1 : Int32) = 0) (some (0 : Int32)) (ite2 ((0 : Int32) = 0) (some (1 : Int32)) (some (0 : Int32)))
set_option maxHeartbeats 4000000 in
set_option maxRecDepth 100000 in
theorem tJ0_isLatin1_aae02 (l : Launch) {G : GT} {kd : Nat → Nat × Nat} {ad : Nat → Nat} {k0 : Nat} (hk0 : k0 < 12) {M : Mem} {vo : Int32} (hf : mJ0_isLatin1_aae02 k0 M = some vo) (n : Nat) : Met l yJ0_isLatin1_aae02 (Cond.code yJ0_isLatin1_aae02 cJ0_isLatin1_aae02 1 (some .boolean) :: WA) (rmO 0 0 0) (Pg G kd ad n [.ref (G.2.2 (100 + k0))] M) (Qg G kd ad n M (some (.int vo))) 0 0 (AS kd ad n) := by
  refine g_body (own := RJ0) (by decide) rfl ?_ (Nat.le_of_ble_eq_true rfl)
  intro p e s m args below meth c C _ H locs ls hI hl
  obtain ⟨hx, hb, hml, hr, hown, hts, hlk, hK, hap, hsx⟩ := id C
  have hl : lv_has ls 1 [(0, .ref (G.2.2 (100 + k0)))] := hl
  unfold mJ0_isLatin1_aae02 at hf
  refine g_gscs hx hb hown hts hsx hI q_t4_63 (dc tbJ0_isLatin1_aae02_k 0 rfl) ?_
  refine lv_if_eq (tgt := 17) hx hb (dc tbJ0_isLatin1_aae02_k 1 rfl) rfl (fun c1 => ?_) (fun c1 => ?_)
  · have hf := ite_t c1 hf
    refine lv_iconst (v := 0) hx hb (dc tbJ0_isLatin1_aae02_k 7 rfl) ic_0 ?_
    cases hf
    exact g_zret hx hb hr hlk hI rfl (dc tbJ0_isLatin1_aae02_k 8 rfl)
  · have hf := ite_f c1 hf
    refine lv_aload_n hx hb (dc tbJ0_isLatin1_aae02_k 2 rfl) rfl (lv_at hl 0 rfl) ?_
    refine g_scod hx hb hown hts hsx hI hk0 q_t5_7 (dc tbJ0_isLatin1_aae02_k 3 rfl) ?_
    refine lv_if_ne (tgt := 17) hx hb (dc tbJ0_isLatin1_aae02_k 4 rfl) rfl (fun c2 => ?_) (fun c2 => ?_)
    · have hf := ite_f c2 hf
      refine lv_iconst (v := 0) hx hb (dc tbJ0_isLatin1_aae02_k 7 rfl) ic_0 ?_
      cases hf
      exact g_zret hx hb hr hlk hI rfl (dc tbJ0_isLatin1_aae02_k 8 rfl)
    · have hf := ite_t c2 hf
      refine lv_iconst (v := 1) hx hb (dc tbJ0_isLatin1_aae02_k 5 rfl) ic_1 ?_
      refine lv_goto (tgt := 18) hx hb (dc tbJ0_isLatin1_aae02_k 6 rfl) rfl ?_
      cases hf
      exact g_zret hx hb hr hlk hI rfl (dc tbJ0_isLatin1_aae02_k 8 rfl)
theorem cv_J0_isLatin1_aae02 : cvF RJ0 yJ0_isLatin1_aae02 cJ0_isLatin1_aae02 1 (some .boolean) 0 := ⟨q_t5_155, q_t5_156, q_t1_9, q_t5_157, by decide +kernel⟩
def mJ0_length_8abf5 (k0 : Nat) (M : Mem) : Option Int32 := cap (mJ0_coder_7d493 k0 M) (fun r2 => some ((Int32.ofNat (stLen k0)) >>> (r2 &&& 31)))
set_option maxHeartbeats 4000000 in
set_option maxRecDepth 100000 in
theorem tJ0_length_8abf5 (l : Launch) {G : GT} {kd : Nat → Nat × Nat} {ad : Nat → Nat} {k0 : Nat} (hk0 : k0 < 12) {M : Mem} {vo : Int32} (hf : mJ0_length_8abf5 k0 M = some vo) (n : Nat) : Met l yJ0_length_8abf5 (Cond.code yJ0_length_8abf5 cJ0_length_8abf5 1 (some .int) :: WA) (rmO 1 0 0) (Pg G kd ad n [.ref (G.2.2 (100 + k0))] M) (Qg G kd ad n M (some (.int vo))) 0 0 (AS kd ad n) := by
  refine g_body (own := RJ0) (by decide) rfl ?_ (Nat.le_of_ble_eq_true rfl)
  intro p e s m args below meth c C _ H locs ls hI hl
  obtain ⟨hx, hb, hml, hr, hown, hts, hlk, hK, hap, hsx⟩ := id C
  have hl : lv_has ls 1 [(0, .ref (G.2.2 (100 + k0)))] := hl
  unfold mJ0_length_8abf5 at hf
  refine lv_aload_n hx hb (dc tbJ0_length_8abf5_k 0 rfl) rfl (lv_at hl 0 rfl) ?_
  refine g_sval hx hb hown hts hsx hI hk0 q_t5_6 (dc tbJ0_length_8abf5_k 1 rfl) ?_
  refine g_svlen hx hb hsx hI hk0 (dc tbJ0_length_8abf5_k 2 rfl) ?_
  refine lv_aload_n hx hb (dc tbJ0_length_8abf5_k 3 rfl) rfl (lv_at hl 0 rfl) ?_
  obtain ⟨r2, q1, hf⟩ := cap_s hf
  refine g_callTi hx hb hml hown hts hK hap hsx hI (tJ0_coder_7d493 l hk0 q1 H.size) cv_J0_coder_7d493 q_t4_59 rfl rfl ⟨Nat.le_of_ble_eq_true rfl, Nat.le_of_ble_eq_true rfl⟩ hk0 rfl hl.1 rfl (Nat.le_of_ble_eq_true rfl) (dc tbJ0_length_8abf5_k 4 rfl) ⟨Nat.le_of_ble_eq_true rfl, Nat.le_of_ble_eq_true rfl⟩ (fun H locs hI => ?_)
  refine lv_ishr hx hb (dc tbJ0_length_8abf5_k 5 rfl) ?_
  cases hf
  exact g_iret hx hb hr hlk hI (dc tbJ0_length_8abf5_k 6 rfl)
theorem cv_J0_length_8abf5 : cvF RJ0 yJ0_length_8abf5 cJ0_length_8abf5 1 (some .int) 0 := ⟨q_t4_56, q_t4_57, q_t1_9, q_t4_58, by decide +kernel⟩
def mJ0_charAt_5068e (k0 : Nat) (x1 : Int32) (M : Mem) : Option Int32 := cap (mJ0_isLatin1_aae02 k0 M) (fun r2 => ite2 (r2 = 0) (none) (cap (mJ1_charAt_3b067 k0 x1 M) (fun r6 => chk (isC r6) (some r6))))
set_option maxHeartbeats 4000000 in
set_option maxRecDepth 100000 in
theorem tJ0_charAt_5068e (l : Launch) {G : GT} {kd : Nat → Nat × Nat} {ad : Nat → Nat} {k0 : Nat} (hk0 : k0 < 12) {x1 : Int32} {M : Mem} {vo : Int32} (hf : mJ0_charAt_5068e k0 x1 M = some vo) (n : Nat) : Met l yJ0_charAt_5068e (Cond.code yJ0_charAt_5068e cJ0_charAt_5068e 2 (some .char) :: WA) (rmO 3 0 0) (Pg G kd ad n [.ref (G.2.2 (100 + k0)), .int x1] M) (Qg G kd ad n M (some (.int vo))) 0 0 (AS kd ad n) := by
  refine g_body (own := RJ0) (by decide) rfl ?_ (Nat.le_of_ble_eq_true rfl)
  intro p e s m args below meth c C _ H locs ls hI hl
  obtain ⟨hx, hb, hml, hr, hown, hts, hlk, hK, hap, hsx⟩ := id C
  have hl : lv_has ls 2 [(0, .ref (G.2.2 (100 + k0))), (1, .int x1)] := hl
  unfold mJ0_charAt_5068e at hf
  refine lv_aload_n hx hb (dc tbJ0_charAt_5068e_k 0 rfl) rfl (lv_at hl 0 rfl) ?_
  obtain ⟨r2, q1, hf⟩ := cap_s hf
  refine g_callTi hx hb hml hown hts hK hap hsx hI (tJ0_isLatin1_aae02 l hk0 q1 H.size) cv_J0_isLatin1_aae02 q_t5_154 rfl rfl ⟨Nat.le_of_ble_eq_true rfl, Nat.le_of_ble_eq_true rfl⟩ hk0 rfl hl.1 rfl (Nat.le_of_ble_eq_true rfl) (dc tbJ0_charAt_5068e_k 1 rfl) ⟨Nat.le_of_ble_eq_true rfl, Nat.le_of_ble_eq_true rfl⟩ (fun H locs hI => ?_)
  refine lv_if_eq (tgt := 16) hx hb (dc tbJ0_charAt_5068e_k 2 rfl) rfl (fun c4 => ?_) (fun c4 => ?_)
  · have hf := ite_t c4 hf
    refine lv_aload_n hx hb (dc tbJ0_charAt_5068e_k 8 rfl) rfl (lv_at hl 0 rfl) ?_
    refine g_sval hx hb hown hts hsx hI hk0 q_t5_6 (dc tbJ0_charAt_5068e_k 9 rfl) ?_
    refine lv_iload_n hx hb (dc tbJ0_charAt_5068e_k 10 rfl) rfl (lv_at hl 1 rfl) ?_
    cases hf
  · have hf := ite_f c4 hf
    refine lv_aload_n hx hb (dc tbJ0_charAt_5068e_k 3 rfl) rfl (lv_at hl 0 rfl) ?_
    refine g_sval hx hb hown hts hsx hI hk0 q_t5_6 (dc tbJ0_charAt_5068e_k 4 rfl) ?_
    refine lv_iload_n hx hb (dc tbJ0_charAt_5068e_k 5 rfl) rfl (lv_at hl 1 rfl) ?_
    obtain ⟨r6, q5, hf⟩ := cap_s hf
    refine g_callSi hx hb hml hown hts hK hap hsx hI (tJ1_charAt_3b067 l hk0 q5 H.size) cs_J1_charAt_3b067 q_t5_158 rfl rfl ⟨Nat.le_of_ble_eq_true rfl, Nat.le_of_ble_eq_true rfl⟩ rfl hl.1 rfl (Nat.le_of_ble_eq_true rfl) (dc tbJ0_charAt_5068e_k 6 rfl) ⟨Nat.le_of_ble_eq_true rfl, Nat.le_of_ble_eq_true rfl⟩ (fun H locs hI => ?_)
    obtain ⟨h8, hf⟩ := chk_s hf
    cases hf
    exact g_zret hx hb hr hlk hI (isC_n h8) (dc tbJ0_charAt_5068e_k 7 rfl)
theorem cv_J0_charAt_5068e : cvF RJ0 yJ0_charAt_5068e cJ0_charAt_5068e 2 (some .char) 1 := ⟨q_t5_151, q_t5_152, q_t1_9, q_t5_153, by decide +kernel⟩
