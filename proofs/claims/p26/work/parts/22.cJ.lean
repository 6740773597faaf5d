def mJ6_bitCount_0f7a4 (x0 : Int32) (M : Mem) : Option Int32 := bnd ((x0 - (((x0).toUInt32 >>> (((1 : Int32)).toUInt32 &&& Int32.toUInt32 31)).toInt32 &&& (1431655765 : Int32)))) (fun x0_9 => bnd (((x0_9 &&& (858993459 : Int32)) + (((x0_9).toUInt32 >>> (((2 : Int32)).toUInt32 &&& Int32.toUInt32 31)).toInt32 &&& (858993459 : Int32)))) (fun x0_23 => bnd (((x0_23 + ((x0_23).toUInt32 >>> (((4 : Int32)).toUInt32 &&& Int32.toUInt32 31)).toInt32) &&& (252645135 : Int32))) (fun x0_33 => bnd ((x0_33 + ((x0_33).toUInt32 >>> (((8 : Int32)).toUInt32 &&& Int32.toUInt32 31)).toInt32)) (fun x0_40 => bnd ((x0_40 + ((x0_40).toUInt32 >>> (((16 : Int32)).toUInt32 &&& Int32.toUInt32 31)).toInt32)) (fun x0_47 => some (x0_47 &&& (63 : Int32)))))))
set_option maxHeartbeats 4000000 in
set_option maxRecDepth 100000 in
theorem tJ6_bitCount_0f7a4 (l : Launch) {G : GT} {kd : Nat → Nat × Nat} {ad : Nat → Nat}  {x0 : Int32} {M : Mem} {vo : Int32} (hf : mJ6_bitCount_0f7a4  x0 M = some vo) (n : Nat) : Met l yJ6_bitCount_0f7a4 (Cond.code yJ6_bitCount_0f7a4 cJ6_bitCount_0f7a4 1 (some .int) :: WA) (rmO 0 0 0) (Pg G kd ad n [.int x0] M) (Qg G kd ad n M (some (.int vo))) 0 0 (AS kd ad n) := by
  refine g_body (own := RJ6) (by decide) rfl ?_ (Nat.le_of_ble_eq_true rfl)
  intro p e s m args below meth c C _ H locs ls hI hl
  obtain ⟨hx, hb, hml, hr, hown, hts, hlk, hK, hap, hsx⟩ := id C
  have hl : lv_has ls 1 [(0, .int x0)] := hl
  unfold mJ6_bitCount_0f7a4 at hf
  refine lv_iload_n hx hb (dc tbJ6_bitCount_0f7a4_0_k 0 rfl) rfl (lv_at hl 0 rfl) ?_
  refine lv_iload_n hx hb (dc tbJ6_bitCount_0f7a4_0_k 1 rfl) rfl (lv_at hl 0 rfl) ?_
  refine lv_iconst (v := 1) hx hb (dc tbJ6_bitCount_0f7a4_0_k 2 rfl) ic_1 ?_
  refine lv_iushr hx hb (dc tbJ6_bitCount_0f7a4_0_k 3 rfl) rfl ?_
  refine lv_ldcw hx hb hown (hts _ q_t3_174) (dc tbJ6_bitCount_0f7a4_0_k 4 rfl) ?_
  refine lv_iand hx hb (dc tbJ6_bitCount_0f7a4_0_k 5 rfl) ?_
  refine lv_isub hx hb (dc tbJ6_bitCount_0f7a4_0_k 6 rfl) ?_
  obtain ⟨x0_9, e1, hf⟩ := bnd_s hf
  refine lv_ei e1 ?_
  refine lv_istore_n (lv' := [(0, .int x0_9)]) hx hb (dc tbJ6_bitCount_0f7a4_0_k 7 rfl) rfl hl (by decide) rfl (fun ls hl => ?_)
  refine lv_iload_n hx hb (dc tbJ6_bitCount_0f7a4_0_k 8 rfl) rfl (lv_at hl 0 rfl) ?_
  refine lv_ldcw hx hb hown (hts _ q_t3_175) (dc tbJ6_bitCount_0f7a4_0_k 9 rfl) ?_
  refine lv_iand hx hb (dc tbJ6_bitCount_0f7a4_0_k 10 rfl) ?_
  refine lv_iload_n hx hb (dc tbJ6_bitCount_0f7a4_0_k 11 rfl) rfl (lv_at hl 0 rfl) ?_
  refine lv_iconst (v := 2) hx hb (dc tbJ6_bitCount_0f7a4_0_k 12 rfl) ic_2 ?_
  refine lv_iushr hx hb (dc tbJ6_bitCount_0f7a4_0_k 13 rfl) rfl ?_
  refine lv_ldcw hx hb hown (hts _ q_t3_175) (dc tbJ6_bitCount_0f7a4_0_k 14 rfl) ?_
  refine lv_iand hx hb (dc tbJ6_bitCount_0f7a4_0_k 15 rfl) ?_
  refine lv_iadd hx hb (dc tbJ6_bitCount_0f7a4_0_k 16 rfl) ?_
  obtain ⟨x0_23, e2, hf⟩ := bnd_s hf
  refine lv_ei e2 ?_
  refine lv_istore_n (lv' := [(0, .int x0_23)]) hx hb (dc tbJ6_bitCount_0f7a4_0_k 17 rfl) rfl hl (by decide) rfl (fun ls hl => ?_)
  refine lv_iload_n hx hb (dc tbJ6_bitCount_0f7a4_0_k 18 rfl) rfl (lv_at hl 0 rfl) ?_
  refine lv_iload_n hx hb (dc tbJ6_bitCount_0f7a4_0_k 19 rfl) rfl (lv_at hl 0 rfl) ?_
  refine lv_iconst (v := 4) hx hb (dc tbJ6_bitCount_0f7a4_0_k 20 rfl) ic_4 ?_
  refine lv_iushr hx hb (dc tbJ6_bitCount_0f7a4_0_k 21 rfl) rfl ?_
  refine lv_iadd hx hb (dc tbJ6_bitCount_0f7a4_0_k 22 rfl) ?_
  refine lv_ldcw hx hb hown (hts _ q_t3_176) (dc tbJ6_bitCount_0f7a4_0_k 23 rfl) ?_
  refine lv_iand hx hb (dc tbJ6_bitCount_0f7a4_0_k 24 rfl) ?_
  obtain ⟨x0_33, e3, hf⟩ := bnd_s hf
  refine lv_ei e3 ?_
  refine lv_istore_n (lv' := [(0, .int x0_33)]) hx hb (dc tbJ6_bitCount_0f7a4_0_k 25 rfl) rfl hl (by decide) rfl (fun ls hl => ?_)
  refine lv_iload_n hx hb (dc tbJ6_bitCount_0f7a4_0_k 26 rfl) rfl (lv_at hl 0 rfl) ?_
  refine lv_iload_n hx hb (dc tbJ6_bitCount_0f7a4_0_k 27 rfl) rfl (lv_at hl 0 rfl) ?_
  refine lv_bipush (v := 8) hx hb (dc tbJ6_bitCount_0f7a4_0_k 28 rfl) bp_8 ?_
  refine lv_iushr hx hb (dc tbJ6_bitCount_0f7a4_0_k 29 rfl) rfl ?_
  refine lv_iadd hx hb (dc tbJ6_bitCount_0f7a4_0_k 30 rfl) ?_
  obtain ⟨x0_40, e4, hf⟩ := bnd_s hf
  refine lv_ei e4 ?_
  refine lv_istore_n (lv' := [(0, .int x0_40)]) hx hb (dc tbJ6_bitCount_0f7a4_0_k 31 rfl) rfl hl (by decide) rfl (fun ls hl => ?_)
  refine lv_iload_n hx hb (dc tbJ6_bitCount_0f7a4_0_k 32 rfl) rfl (lv_at hl 0 rfl) ?_
  refine lv_iload_n hx hb (dc tbJ6_bitCount_0f7a4_0_k 33 rfl) rfl (lv_at hl 0 rfl) ?_
  refine lv_bipush (v := 16) hx hb (dc tbJ6_bitCount_0f7a4_0_k 34 rfl) bp_16 ?_
  refine lv_iushr hx hb (dc tbJ6_bitCount_0f7a4_0_k 35 rfl) rfl ?_
  refine lv_iadd hx hb (dc tbJ6_bitCount_0f7a4_0_k 36 rfl) ?_
  obtain ⟨x0_47, e5, hf⟩ := bnd_s hf
  refine lv_ei e5 ?_
  refine lv_istore_n (lv' := [(0, .int x0_47)]) hx hb (dc tbJ6_bitCount_0f7a4_0_k 37 rfl) rfl hl (by decide) rfl (fun ls hl => ?_)
  refine lv_iload_n hx hb (dc tbJ6_bitCount_0f7a4_0_k 38 rfl) rfl (lv_at hl 0 rfl) ?_
  refine lv_bipush (v := 63) hx hb (dc tbJ6_bitCount_0f7a4_0_k 39 rfl) bp_63 ?_
  refine lv_iand hx hb (dc tbJ6_bitCount_0f7a4_1_k 0 rfl) ?_
  cases hf
  exact g_iret hx hb hr hlk hI (dc tbJ6_bitCount_0f7a4_1_k 1 rfl)
theorem cs_J6_bitCount_0f7a4 : csF yJ6_bitCount_0f7a4 cJ6_bitCount_0f7a4 1 (some .int) 1 := ⟨q_t3_172, q_t1_23, q_t3_173, by decide +kernel⟩
