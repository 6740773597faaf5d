def mJ6_stringSize_0f7a4_b16 (M : Mem) (ih16 : Int32 → Int32 → Int32 → Int32 → Option Int32) (x0 : Int32) (x1 : Int32) (x2 : Int32) (x3 : Int32) : Option Int32 := ite2 ((10 : Int32) ≤ x3) (some ((10 : Int32) + x1)) (ite2 (x0 ≤ x2) (bnd (((10 : Int32) * x2)) (fun x2_35 => bnd (x3 + (1 : Int32)) (fun x3_36 => ih16 x0 x1 x2_35 x3_36))) (some (x3 + x1)))
set_option maxHeartbeats 4000000 in
set_option maxRecDepth 100000 in
theorem tJ6_stringSize_0f7a4_b16 {p : Program} {l : Launch} {e : Env} {s : State} {m : MethodId} {args : Array Value} {below : List Frame} {meth : Method} {c : Code} {G : GT} {kd : Nat → Nat × Nat} {ad : Nat → Nat} (C : Cx p s m args meth c cJ6_stringSize_0f7a4 4 (some .int) RJ6 G kd ad)  {M : Mem} {vo : Int32} {ih16 : Int32 → Int32 → Int32 → Int32 → Option Int32} (hih16 : ∀ (x0 : Int32) (x1 : Int32) (x2 : Int32) (x3 : Int32), ih16 x0 x1 x2 x3 = some vo → At p l e (rmO 0 0 0) s m args below meth c 0 0 (MQ below (Qg G kd ad s.heap.size M (some (.int vo))) args s 0 0 (AS kd ad s.heap.size)) G kd ad 4 16 [(0, .int x0), (1, .int x1), (2, .int x2), (3, .int x3)] [] M) : ∀ (x0 : Int32) (x1 : Int32) (x2 : Int32) (x3 : Int32), mJ6_stringSize_0f7a4_b16  M ih16 x0 x1 x2 x3 = some vo → At p l e (rmO 0 0 0) s m args below meth c 0 0 (MQ below (Qg G kd ad s.heap.size M (some (.int vo))) args s 0 0 (AS kd ad s.heap.size)) G kd ad 4 16 [(0, .int x0), (1, .int x1), (2, .int x2), (3, .int x3)] [] M := by
  intro x0 x1 x2 x3 hf H locs ls hI hl
  obtain ⟨hx, hb, hml, hr, hown, hts, hlk, hK, hap, hsx⟩ := id C
  unfold mJ6_stringSize_0f7a4_b16 at hf
  refine lv_iload_n hx hb (dc tbJ6_stringSize_0f7a4_k 13 rfl) rfl (lv_at hl 3 rfl) ?_
  refine lv_bipush (v := 10) hx hb (dc tbJ6_stringSize_0f7a4_k 14 rfl) bp_10 ?_
  refine lv_icmp_ge (tgt := 42) hx hb (dc tbJ6_stringSize_0f7a4_k 15 rfl) rfl (fun c2 => ?_) (fun c2 => ?_)
  · have hf := ite_t c2 hf
    refine lv_bipush (v := 10) hx hb (dc tbJ6_stringSize_0f7a4_k 29 rfl) bp_10 ?_
    refine lv_iload_n hx hb (dc tbJ6_stringSize_0f7a4_k 30 rfl) rfl (lv_at hl 1 rfl) ?_
    refine lv_iadd hx hb (dc tbJ6_stringSize_0f7a4_k 31 rfl) ?_
    cases hf
    exact g_iret hx hb hr hlk hI (dc tbJ6_stringSize_0f7a4_k 32 rfl)
  · have hf := ite_f c2 hf
    refine lv_iload_n hx hb (dc tbJ6_stringSize_0f7a4_k 16 rfl) rfl (lv_at hl 0 rfl) ?_
    refine lv_iload_n hx hb (dc tbJ6_stringSize_0f7a4_k 17 rfl) rfl (lv_at hl 2 rfl) ?_
    refine lv_icmp_le (tgt := 31) hx hb (dc tbJ6_stringSize_0f7a4_k 18 rfl) rfl (fun c3 => ?_) (fun c3 => ?_)
    · have hf := ite_t c3 hf
      refine lv_bipush (v := 10) hx hb (dc tbJ6_stringSize_0f7a4_k 23 rfl) bp_10 ?_
      refine lv_iload_n hx hb (dc tbJ6_stringSize_0f7a4_k 24 rfl) rfl (lv_at hl 2 rfl) ?_
      refine lv_imul hx hb (dc tbJ6_stringSize_0f7a4_k 25 rfl) ?_
      obtain ⟨x2_35, e4, hf⟩ := bnd_s hf
      refine lv_ei e4 ?_
      refine lv_istore_n (lv' := [(2, .int x2_35), (0, .int x0), (1, .int x1), (3, .int x3)]) hx hb (dc tbJ6_stringSize_0f7a4_k 26 rfl) rfl hl (by decide) rfl (fun ls hl => ?_)
      obtain ⟨x3_36, e5, hf⟩ := bnd_s hf
      refine lv_iinc (v := x3_36) (lv' := [(3, .int x3_36), (2, .int x2_35), (0, .int x0), (1, .int x1)]) hx hb (dc tbJ6_stringSize_0f7a4_k 27 rfl) hl (k := 3) rfl (ii_e e5 ic_1) (by decide) rfl (fun ls hl => ?_)
      refine lv_goto (tgt := 16) hx hb (dc tbJ6_stringSize_0f7a4_k 28 rfl) rfl ?_
      exact hih16 x0 x1 x2_35 x3_36 hf _ _ _ hI (lv_sub hl [2, 3, 1, 0] rfl)
    · have hf := ite_f c3 hf
      refine lv_iload_n hx hb (dc tbJ6_stringSize_0f7a4_k 19 rfl) rfl (lv_at hl 3 rfl) ?_
      refine lv_iload_n hx hb (dc tbJ6_stringSize_0f7a4_k 20 rfl) rfl (lv_at hl 1 rfl) ?_
      refine lv_iadd hx hb (dc tbJ6_stringSize_0f7a4_k 21 rfl) ?_
      cases hf
      exact g_iret hx hb hr hlk hI (dc tbJ6_stringSize_0f7a4_k 22 rfl)
def mJ6_stringSize_0f7a4_l16 (M : Mem) : Nat → Int32 → Int32 → Int32 → Int32 → Option Int32
  | 0 => fun _ _ _ _ => none
  | n + 1 => mJ6_stringSize_0f7a4_b16  M (mJ6_stringSize_0f7a4_l16  M n)
theorem tJ6_stringSize_0f7a4_l16 {p : Program} {l : Launch} {e : Env} {s : State} {m : MethodId} {args : Array Value} {below : List Frame} {meth : Method} {c : Code} {G : GT} {kd : Nat → Nat × Nat} {ad : Nat → Nat} (C : Cx p s m args meth c cJ6_stringSize_0f7a4 4 (some .int) RJ6 G kd ad)  {M : Mem} {vo : Int32}   : ∀ (fuel : Nat) (x0 : Int32) (x1 : Int32) (x2 : Int32) (x3 : Int32), mJ6_stringSize_0f7a4_l16  M fuel x0 x1 x2 x3 = some vo → At p l e (rmO 0 0 0) s m args below meth c 0 0 (MQ below (Qg G kd ad s.heap.size M (some (.int vo))) args s 0 0 (AS kd ad s.heap.size)) G kd ad 4 16 [(0, .int x0), (1, .int x1), (2, .int x2), (3, .int x3)] [] M := by
  intro fuel
  induction fuel with
  | zero => intro x0 x1 x2 x3 hf; cases hf
  | succ n IH => exact tJ6_stringSize_0f7a4_b16 C  IH
def mJ6_stringSize_0f7a4_b11 (M : Mem) (x0 : Int32) (x1 : Int32) : Option Int32 := mJ6_stringSize_0f7a4_l16  M 5000 x0 x1 (-10 : Int32) (1 : Int32)
set_option maxHeartbeats 4000000 in
set_option maxRecDepth 100000 in
theorem tJ6_stringSize_0f7a4_b11 {p : Program} {l : Launch} {e : Env} {s : State} {m : MethodId} {args : Array Value} {below : List Frame} {meth : Method} {c : Code} {G : GT} {kd : Nat → Nat × Nat} {ad : Nat → Nat} (C : Cx p s m args meth c cJ6_stringSize_0f7a4 4 (some .int) RJ6 G kd ad)  {M : Mem} {vo : Int32}   : ∀ (x0 : Int32) (x1 : Int32), mJ6_stringSize_0f7a4_b11  M x0 x1 = some vo → At p l e (rmO 0 0 0) s m args below meth c 0 0 (MQ below (Qg G kd ad s.heap.size M (some (.int vo))) args s 0 0 (AS kd ad s.heap.size)) G kd ad 4 11 [(0, .int x0), (1, .int x1)] [] M := by
  intro x0 x1 hf H locs ls hI hl
  obtain ⟨hx, hb, hml, hr, hown, hts, hlk, hK, hap, hsx⟩ := id C
  unfold mJ6_stringSize_0f7a4_b11 at hf
  refine lv_bipush (v := -10) hx hb (dc tbJ6_stringSize_0f7a4_k 9 rfl) bp_m10 ?_
  refine lv_istore_n (lv' := [(2, .int (-10 : Int32)), (0, .int x0), (1, .int x1)]) hx hb (dc tbJ6_stringSize_0f7a4_k 10 rfl) rfl hl (by decide) rfl (fun ls hl => ?_)
  refine lv_iconst (v := 1) hx hb (dc tbJ6_stringSize_0f7a4_k 11 rfl) ic_1 ?_
  refine lv_istore_n (lv' := [(3, .int (1 : Int32)), (2, .int (-10 : Int32)), (0, .int x0), (1, .int x1)]) hx hb (dc tbJ6_stringSize_0f7a4_k 12 rfl) rfl hl (by decide) rfl (fun ls hl => ?_)
  exact tJ6_stringSize_0f7a4_l16 C  5000 x0 x1 (-10 : Int32) (1 : Int32) hf _ _ _ hI (lv_sub hl [2, 3, 1, 0] rfl)
def mJ6_stringSize_0f7a4 (x0 : Int32) (M : Mem) : Option Int32 := ite2 (x0 < 0) (mJ6_stringSize_0f7a4_b11  M x0 (1 : Int32)) (bnd ((-x0)) (fun x0_10 => mJ6_stringSize_0f7a4_b11  M x0_10 (0 : Int32)))
set_option maxHeartbeats 4000000 in
set_option maxRecDepth 100000 in
theorem tJ6_stringSize_0f7a4 (l : Launch) {G : GT} {kd : Nat → Nat × Nat} {ad : Nat → Nat}  {x0 : Int32} {M : Mem} {vo : Int32} (hf : mJ6_stringSize_0f7a4  x0 M = some vo) (n : Nat) : Met l yJ6_stringSize_0f7a4 (Cond.code yJ6_stringSize_0f7a4 cJ6_stringSize_0f7a4 4 (some .int) :: WA) (rmO 0 0 0) (Pg G kd ad n [.int x0] M) (Qg G kd ad n M (some (.int vo))) 0 0 (AS kd ad n) := by
  refine g_body (own := RJ6) (by decide) rfl ?_ (Nat.le_of_ble_eq_true rfl)
  intro p e s m args below meth c C _ H locs ls hI hl
  obtain ⟨hx, hb, hml, hr, hown, hts, hlk, hK, hap, hsx⟩ := id C
  have hl : lv_has ls 4 [(0, .int x0)] := hl
  unfold mJ6_stringSize_0f7a4 at hf
  refine lv_iconst (v := 1) hx hb (dc tbJ6_stringSize_0f7a4_k 0 rfl) ic_1 ?_
  refine lv_istore_n (lv' := [(1, .int (1 : Int32)), (0, .int x0)]) hx hb (dc tbJ6_stringSize_0f7a4_k 1 rfl) rfl hl (by decide) rfl (fun ls hl => ?_)
  refine lv_iload_n hx hb (dc tbJ6_stringSize_0f7a4_k 2 rfl) rfl (lv_at hl 1 rfl) ?_
  refine lv_if_lt (tgt := 11) hx hb (dc tbJ6_stringSize_0f7a4_k 3 rfl) rfl (fun c1 => ?_) (fun c1 => ?_)
  · have hf := ite_t c1 hf
    exact tJ6_stringSize_0f7a4_b11 C  x0 (1 : Int32) hf _ _ _ hI (lv_sub hl [1, 0] rfl)
  · have hf := ite_f c1 hf
    refine lv_iconst (v := 0) hx hb (dc tbJ6_stringSize_0f7a4_k 4 rfl) ic_0 ?_
    refine lv_istore_n (lv' := [(1, .int (0 : Int32)), (0, .int x0)]) hx hb (dc tbJ6_stringSize_0f7a4_k 5 rfl) rfl hl (by decide) rfl (fun ls hl => ?_)
    refine lv_iload_n hx hb (dc tbJ6_stringSize_0f7a4_k 6 rfl) rfl (lv_at hl 1 rfl) ?_
    refine lv_ineg hx hb (dc tbJ6_stringSize_0f7a4_k 7 rfl) ?_
    obtain ⟨x0_10, e6, hf⟩ := bnd_s hf
    refine lv_ei e6 ?_
    refine lv_istore_n (lv' := [(0, .int x0_10), (1, .int (0 : Int32))]) hx hb (dc tbJ6_stringSize_0f7a4_k 8 rfl) rfl hl (by decide) rfl (fun ls hl => ?_)
    exact tJ6_stringSize_0f7a4_b11 C  x0_10 (0 : Int32) hf _ _ _ hI (lv_sub hl [0, 1] rfl)
theorem cs_J6_stringSize_0f7a4 : csF yJ6_stringSize_0f7a4 cJ6_stringSize_0f7a4 4 (some .int) 1 := ⟨q_t4_75, q_t1_17, q_t4_76, by decide +kernel⟩
def mJ6_getChars_ba4f3_b104 (k0 : Nat) (n0 : Nat) (x5 : Int32) (x6 : Int32) (M : Mem) : Option (Mem × Int32) := ite2 (x6 = 0) (some (M, x5)) (bnd (x5 + (-1 : Int32)) (fun x5_110 => chk (okb x5_110 n0) (bnd (wr M k0 (x5_110).toNatClampNeg (vp_nar .byte (45 : Int32))) (fun M14 => some (M14, x5_110)))))
set_option maxHeartbeats 4000000 in
set_option maxRecDepth 100000 in
theorem tJ6_getChars_ba4f3_b104 {p : Program} {l : Launch} {e : Env} {s : State} {m : MethodId} {args : Array Value} {below : List Frame} {meth : Method} {c : Code} {G : GT} {kd : Nat → Nat × Nat} {ad : Nat → Nat} (C : Cx p s m args meth c cJ6_getChars_ba4f3 7 (some .int) RJ6 G kd ad) {k0 : Nat} {n0 : Nat} (hk0 : kd k0 = (11, n0)) {MO : Mem} {vo : Int32}   : ∀ (x5 : Int32) (x6 : Int32) (M : Mem), mJ6_getChars_ba4f3_b104 k0 n0 x5 x6 M = some (MO, vo) → At p l e (rmO 0 0 0) s m args below meth c 0 0 (MQ below (Qg G kd ad s.heap.size MO (some (.int vo))) args s 0 0 (AS kd ad s.heap.size)) G kd ad 7 104 [(2, .ref (ad k0)), (5, .int x5), (6, .int x6)] [] M := by
  intro x5 x6 M hf H locs ls hI hl
  obtain ⟨hx, hb, hml, hr, hown, hts, hlk, hK, hap, hsx⟩ := id C
  unfold mJ6_getChars_ba4f3_b104 at hf
  refine lv_iload hx hb (dc tbJ6_getChars_ba4f3_1_k 22 rfl) (lv_at hl 2 rfl) ?_
  refine lv_if_eq (tgt := 118) hx hb (dc tbJ6_getChars_ba4f3_1_k 23 rfl) rfl (fun c10 => ?_) (fun c10 => ?_)
  · have hf := ite_t c10 hf
    refine lv_iload hx hb (dc tbJ6_getChars_ba4f3_1_k 29 rfl) (lv_at hl 1 rfl) ?_
    cases hf
    exact g_iret hx hb hr hlk hI (dc tbJ6_getChars_ba4f3_1_k 30 rfl)
  · have hf := ite_f c10 hf
    refine lv_aload_n hx hb (dc tbJ6_getChars_ba4f3_1_k 24 rfl) rfl (lv_at hl 0 rfl) ?_
    obtain ⟨x5_110, e11, hf⟩ := bnd_s hf
    refine lv_iinc (v := x5_110) (lv' := [(5, .int x5_110), (2, .ref (ad k0)), (6, .int x6)]) hx hb (dc tbJ6_getChars_ba4f3_1_k 25 rfl) hl (k := 1) rfl (ii_e e11 ic_m1) (by decide) rfl (fun ls hl => ?_)
    refine lv_iload hx hb (dc tbJ6_getChars_ba4f3_1_k 26 rfl) (lv_at hl 0 rfl) ?_
    refine lv_bipush (v := 45) hx hb (dc tbJ6_getChars_ba4f3_1_k 27 rfl) bp_45 ?_
    obtain ⟨h12, hf⟩ := chk_s hf
    obtain ⟨M14, e13, hf⟩ := bnd_s hf
    refine g_bast hx hb hK hap hI hk0 (okb_in h12) (dc tbJ6_getChars_ba4f3_1_k 28 rfl) e13 (fun H locs hI => ?_)
    refine lv_iload hx hb (dc tbJ6_getChars_ba4f3_1_k 29 rfl) (lv_at hl 0 rfl) ?_
    cases hf
    exact g_iret hx hb hr hlk hI (dc tbJ6_getChars_ba4f3_1_k 30 rfl)
def mJ6_getChars_ba4f3_b22 (k0 : Nat) (n0 : Nat) (ih22 : Int32 → Int32 → Int32 → Mem → Option (Mem × Int32)) (x0 : Int32) (x5 : Int32) (x6 : Int32) (M : Mem) : Option (Mem × Int32) := ite2 ((-100 : Int32) < x0) (bnd (x5 + (-1 : Int32)) (fun x5_73 => chk (okb (-x0) 100) (chk (okb x5_73 n0) (bnd (wr M k0 (x5_73).toNatClampNeg (vp_nar .byte (dgOnes.getD ((-x0)).toNatClampNeg 0))) (fun M8 => ite2 ((-9 : Int32) ≤ x0) (mJ6_getChars_ba4f3_b104 k0 n0 x5_73 x6 M8) (bnd (x5_73 + (-1 : Int32)) (fun x5_92 => chk (okb (-x0) 100) (chk (okb x5_92 n0) (bnd (wr M8 k0 (x5_92).toNatClampNeg (vp_nar .byte (dgTens.getD ((-x0)).toNatClampNeg 0))) (fun M19 => mJ6_getChars_ba4f3_b104 k0 n0 x5_92 x6 M19)))))))))) (bnd ((x0 / (100 : Int32))) (fun x3_32 => bnd (((x3_32 * (100 : Int32)) - x0)) (fun x4_39 => bnd (x5 + (-1 : Int32)) (fun x5_44 => chk (okb x4_39 100) (chk (okb x5_44 n0) (bnd (wr M k0 (x5_44).toNatClampNeg (vp_nar .byte (dgOnes.getD (x4_39).toNatClampNeg 0))) (fun M26 => bnd (x5_44 + (-1 : Int32)) (fun x5_57 => chk (okb x4_39 100) (chk (okb x5_57 n0) (bnd (wr M26 k0 (x5_57).toNatClampNeg (vp_nar .byte (dgTens.getD (x4_39).toNatClampNeg 0))) (fun M31 => ih22 x3_32 x5_57 x6 M31)))))))))))
set_option maxHeartbeats 4000000 in
set_option maxRecDepth 100000 in
theorem tJ6_getChars_ba4f3_b22 {p : Program} {l : Launch} {e : Env} {s : State} {m : MethodId} {args : Array Value} {below : List Frame} {meth : Method} {c : Code} {G : GT} {kd : Nat → Nat × Nat} {ad : Nat → Nat} (C : Cx p s m args meth c cJ6_getChars_ba4f3 7 (some .int) RJ6 G kd ad) {k0 : Nat} {n0 : Nat} (hk0 : kd k0 = (11, n0)) {MO : Mem} {vo : Int32} {ih22 : Int32 → Int32 → Int32 → Mem → Option (Mem × Int32)} (hih22 : ∀ (x0 : Int32) (x5 : Int32) (x6 : Int32) (M : Mem), ih22 x0 x5 x6 M = some (MO, vo) → At p l e (rmO 0 0 0) s m args below meth c 0 0 (MQ below (Qg G kd ad s.heap.size MO (some (.int vo))) args s 0 0 (AS kd ad s.heap.size)) G kd ad 7 22 [(0, .int x0), (2, .ref (ad k0)), (5, .int x5), (6, .int x6)] [] M) : ∀ (x0 : Int32) (x5 : Int32) (x6 : Int32) (M : Mem), mJ6_getChars_ba4f3_b22 k0 n0 ih22 x0 x5 x6 M = some (MO, vo) → At p l e (rmO 0 0 0) s m args below meth c 0 0 (MQ below (Qg G kd ad s.heap.size MO (some (.int vo))) args s 0 0 (AS kd ad s.heap.size)) G kd ad 7 22 [(0, .int x0), (2, .ref (ad k0)), (5, .int x5), (6, .int x6)] [] M := by
  intro x0 x5 x6 M hf H locs ls hI hl
  obtain ⟨hx, hb, hml, hr, hown, hts, hlk, hK, hap, hsx⟩ := id C
  unfold mJ6_getChars_ba4f3_b22 at hf
  refine lv_iload_n hx hb (dc tbJ6_getChars_ba4f3_0_k 13 rfl) rfl (lv_at hl 0 rfl) ?_
  refine lv_bipush (v := -100) hx hb (dc tbJ6_getChars_ba4f3_0_k 14 rfl) bp_m100 ?_
  refine lv_icmp_gt (tgt := 72) hx hb (dc tbJ6_getChars_ba4f3_0_k 15 rfl) rfl (fun c3 => ?_) (fun c3 => ?_)
  · have hf := ite_t c3 hf
    refine lv_aload_n hx hb (dc tbJ6_getChars_ba4f3_1_k 3 rfl) rfl (lv_at hl 1 rfl) ?_
    obtain ⟨x5_73, e4, hf⟩ := bnd_s hf
    refine lv_iinc (v := x5_73) (lv' := [(5, .int x5_73), (0, .int x0), (2, .ref (ad k0)), (6, .int x6)]) hx hb (dc tbJ6_getChars_ba4f3_1_k 4 rfl) hl (k := 2) rfl (ii_e e4 ic_m1) (by decide) rfl (fun ls hl => ?_)
    refine lv_iload hx hb (dc tbJ6_getChars_ba4f3_1_k 5 rfl) (lv_at hl 0 rfl) ?_
    refine g_gsd1 hx hb hown hts hsx hI q_t4_80 (dc tbJ6_getChars_ba4f3_1_k 6 rfl) ?_
    refine lv_iload_n hx hb (dc tbJ6_getChars_ba4f3_1_k 7 rfl) rfl (lv_at hl 1 rfl) ?_
    refine lv_ineg hx hb (dc tbJ6_getChars_ba4f3_1_k 8 rfl) ?_
    obtain ⟨h5, hf⟩ := chk_s hf
    refine g_d1ld hx hb hsx hI (okb_in h5) (dc tbJ6_getChars_ba4f3_1_k 9 rfl) ?_
    obtain ⟨h6, hf⟩ := chk_s hf
    obtain ⟨M8, e7, hf⟩ := bnd_s hf
    refine g_bast hx hb hK hap hI hk0 (okb_in h6) (dc tbJ6_getChars_ba4f3_1_k 10 rfl) e7 (fun H locs hI => ?_)
    refine lv_iload_n hx hb (dc tbJ6_getChars_ba4f3_1_k 11 rfl) rfl (lv_at hl 1 rfl) ?_
    refine lv_bipush (v := -9) hx hb (dc tbJ6_getChars_ba4f3_1_k 12 rfl) bp_m9 ?_
    refine lv_icmp_ge (tgt := 104) hx hb (dc tbJ6_getChars_ba4f3_1_k 13 rfl) rfl (fun c9 => ?_) (fun c9 => ?_)
    · have hf := ite_t c9 hf
      exact tJ6_getChars_ba4f3_b104 C hk0 x5_73 x6 M8 hf _ _ _ hI (lv_sub hl [2, 0, 3] rfl)
    · have hf := ite_f c9 hf
      refine lv_aload_n hx hb (dc tbJ6_getChars_ba4f3_1_k 14 rfl) rfl (lv_at hl 2 rfl) ?_
      obtain ⟨x5_92, e15, hf⟩ := bnd_s hf
      refine lv_iinc (v := x5_92) (lv' := [(5, .int x5_92), (0, .int x0), (2, .ref (ad k0)), (6, .int x6)]) hx hb (dc tbJ6_getChars_ba4f3_1_k 15 rfl) hl (k := 0) rfl (ii_e e15 ic_m1) (by decide) rfl (fun ls hl => ?_)
      refine lv_iload hx hb (dc tbJ6_getChars_ba4f3_1_k 16 rfl) (lv_at hl 0 rfl) ?_
      refine g_gsd2 hx hb hown hts hsx hI q_t4_82 (dc tbJ6_getChars_ba4f3_1_k 17 rfl) ?_
      refine lv_iload_n hx hb (dc tbJ6_getChars_ba4f3_1_k 18 rfl) rfl (lv_at hl 1 rfl) ?_
      refine lv_ineg hx hb (dc tbJ6_getChars_ba4f3_1_k 19 rfl) ?_
      obtain ⟨h16, hf⟩ := chk_s hf
      refine g_d2ld hx hb hsx hI (okb_in h16) (dc tbJ6_getChars_ba4f3_1_k 20 rfl) ?_
      obtain ⟨h17, hf⟩ := chk_s hf
      obtain ⟨M19, e18, hf⟩ := bnd_s hf
      refine g_bast hx hb hK hap hI hk0 (okb_in h17) (dc tbJ6_getChars_ba4f3_1_k 21 rfl) e18 (fun H locs hI => ?_)
      exact tJ6_getChars_ba4f3_b104 C hk0 x5_92 x6 M19 hf _ _ _ hI (lv_sub hl [2, 0, 3] rfl)
  · have hf := ite_f c3 hf
    refine lv_iload_n hx hb (dc tbJ6_getChars_ba4f3_0_k 16 rfl) rfl (lv_at hl 0 rfl) ?_
    refine lv_bipush (v := 100) hx hb (dc tbJ6_getChars_ba4f3_0_k 17 rfl) bp_100 ?_
    refine lv_idiv hx hb (dc tbJ6_getChars_ba4f3_0_k 18 rfl) (by decide) ?_
    obtain ⟨x3_32, e20, hf⟩ := bnd_s hf
    refine lv_ei e20 ?_
    refine lv_istore_n (lv' := [(3, .int x3_32), (0, .int x0), (2, .ref (ad k0)), (5, .int x5), (6, .int x6)]) hx hb (dc tbJ6_getChars_ba4f3_0_k 19 rfl) rfl hl (by decide) rfl (fun ls hl => ?_)
    refine lv_iload_n hx hb (dc tbJ6_getChars_ba4f3_0_k 20 rfl) rfl (lv_at hl 0 rfl) ?_
    refine lv_bipush (v := 100) hx hb (dc tbJ6_getChars_ba4f3_0_k 21 rfl) bp_100 ?_
    refine lv_imul hx hb (dc tbJ6_getChars_ba4f3_0_k 22 rfl) ?_
    refine lv_iload_n hx hb (dc tbJ6_getChars_ba4f3_0_k 23 rfl) rfl (lv_at hl 1 rfl) ?_
    refine lv_isub hx hb (dc tbJ6_getChars_ba4f3_0_k 24 rfl) ?_
    obtain ⟨x4_39, e21, hf⟩ := bnd_s hf
    refine lv_ei e21 ?_
    refine lv_istore (lv' := [(4, .int x4_39), (3, .int x3_32), (0, .int x0), (2, .ref (ad k0)), (5, .int x5), (6, .int x6)]) hx hb (dc tbJ6_getChars_ba4f3_0_k 25 rfl) hl (by decide) rfl (fun ls hl => ?_)
    refine lv_iload_n hx hb (dc tbJ6_getChars_ba4f3_0_k 26 rfl) rfl (lv_at hl 1 rfl) ?_
    refine lv_istore_n (lv' := [(0, .int x3_32), (4, .int x4_39), (3, .int x3_32), (2, .ref (ad k0)), (5, .int x5), (6, .int x6)]) hx hb (dc tbJ6_getChars_ba4f3_0_k 27 rfl) rfl hl (by decide) rfl (fun ls hl => ?_)
    refine lv_aload_n hx hb (dc tbJ6_getChars_ba4f3_0_k 28 rfl) rfl (lv_at hl 3 rfl) ?_
    obtain ⟨x5_44, e22, hf⟩ := bnd_s hf
    refine lv_iinc (v := x5_44) (lv' := [(5, .int x5_44), (0, .int x3_32), (4, .int x4_39), (3, .int x3_32), (2, .ref (ad k0)), (6, .int x6)]) hx hb (dc tbJ6_getChars_ba4f3_0_k 29 rfl) hl (k := 4) rfl (ii_e e22 ic_m1) (by decide) rfl (fun ls hl => ?_)
    refine lv_iload hx hb (dc tbJ6_getChars_ba4f3_0_k 30 rfl) (lv_at hl 0 rfl) ?_
    refine g_gsd1 hx hb hown hts hsx hI q_t4_80 (dc tbJ6_getChars_ba4f3_0_k 31 rfl) ?_
    refine lv_iload hx hb (dc tbJ6_getChars_ba4f3_0_k 32 rfl) (lv_at hl 2 rfl) ?_
    obtain ⟨h23, hf⟩ := chk_s hf
    refine g_d1ld hx hb hsx hI (okb_in h23) (dc tbJ6_getChars_ba4f3_0_k 33 rfl) ?_
    obtain ⟨h24, hf⟩ := chk_s hf
    obtain ⟨M26, e25, hf⟩ := bnd_s hf
    refine g_bast hx hb hK hap hI hk0 (okb_in h24) (dc tbJ6_getChars_ba4f3_0_k 34 rfl) e25 (fun H locs hI => ?_)
    refine lv_aload_n hx hb (dc tbJ6_getChars_ba4f3_0_k 35 rfl) rfl (lv_at hl 4 rfl) ?_
    obtain ⟨x5_57, e27, hf⟩ := bnd_s hf
    refine lv_iinc (v := x5_57) (lv' := [(5, .int x5_57), (0, .int x3_32), (4, .int x4_39), (3, .int x3_32), (2, .ref (ad k0)), (6, .int x6)]) hx hb (dc tbJ6_getChars_ba4f3_0_k 36 rfl) hl (k := 0) rfl (ii_e e27 ic_m1) (by decide) rfl (fun ls hl => ?_)
    refine lv_iload hx hb (dc tbJ6_getChars_ba4f3_0_k 37 rfl) (lv_at hl 0 rfl) ?_
    refine g_gsd2 hx hb hown hts hsx hI q_t4_82 (dc tbJ6_getChars_ba4f3_0_k 38 rfl) ?_
    refine lv_iload hx hb (dc tbJ6_getChars_ba4f3_0_k 39 rfl) (lv_at hl 2 rfl) ?_
    obtain ⟨h28, hf⟩ := chk_s hf
    refine g_d2ld hx hb hsx hI (okb_in h28) (dc tbJ6_getChars_ba4f3_1_k 0 rfl) ?_
    obtain ⟨h29, hf⟩ := chk_s hf
    obtain ⟨M31, e30, hf⟩ := bnd_s hf
    refine g_bast hx hb hK hap hI hk0 (okb_in h29) (dc tbJ6_getChars_ba4f3_1_k 1 rfl) e30 (fun H locs hI => ?_)
    refine lv_goto (tgt := 22) hx hb (dc tbJ6_getChars_ba4f3_1_k 2 rfl) rfl ?_
    exact hih22 x3_32 x5_57 x6 M31 hf _ _ _ hI (lv_sub hl [1, 4, 0, 5] rfl)
def mJ6_getChars_ba4f3_l22 (k0 : Nat) (n0 : Nat) : Nat → Int32 → Int32 → Int32 → Mem → Option (Mem × Int32)
  | 0 => fun _ _ _ _ => none
  | n + 1 => mJ6_getChars_ba4f3_b22 k0 n0 (mJ6_getChars_ba4f3_l22 k0 n0 n)
theorem tJ6_getChars_ba4f3_l22 {p : Program} {l : Launch} {e : Env} {s : State} {m : MethodId} {args : Array Value} {below : List Frame} {meth : Method} {c : Code} {G : GT} {kd : Nat → Nat × Nat} {ad : Nat → Nat} (C : Cx p s m args meth c cJ6_getChars_ba4f3 7 (some .int) RJ6 G kd ad) {k0 : Nat} {n0 : Nat} (hk0 : kd k0 = (11, n0)) {MO : Mem} {vo : Int32}   : ∀ (fuel : Nat) (x0 : Int32) (x5 : Int32) (x6 : Int32) (M : Mem), mJ6_getChars_ba4f3_l22 k0 n0 fuel x0 x5 x6 M = some (MO, vo) → At p l e (rmO 0 0 0) s m args below meth c 0 0 (MQ below (Qg G kd ad s.heap.size MO (some (.int vo))) args s 0 0 (AS kd ad s.heap.size)) G kd ad 7 22 [(0, .int x0), (2, .ref (ad k0)), (5, .int x5), (6, .int x6)] [] M := by
  intro fuel
  induction fuel with
  | zero => intro x0 x5 x6 M hf; cases hf
  | succ n IH => exact tJ6_getChars_ba4f3_b22 C hk0 IH
def mJ6_getChars_ba4f3_b12 (k0 : Nat) (n0 : Nat) (x0 : Int32) (x5 : Int32) (y0 : Int32) (M : Mem) : Option (Mem × Int32) := ite2 (y0 = 0) (bnd ((-x0)) (fun x0_21 => mJ6_getChars_ba4f3_l22 k0 n0 5000 x0_21 x5 y0 M)) (mJ6_getChars_ba4f3_l22 k0 n0 5000 x0 x5 y0 M)
set_option maxHeartbeats 4000000 in
set_option maxRecDepth 100000 in
theorem tJ6_getChars_ba4f3_b12 {p : Program} {l : Launch} {e : Env} {s : State} {m : MethodId} {args : Array Value} {below : List Frame} {meth : Method} {c : Code} {G : GT} {kd : Nat → Nat × Nat} {ad : Nat → Nat} (C : Cx p s m args meth c cJ6_getChars_ba4f3 7 (some .int) RJ6 G kd ad) {k0 : Nat} {n0 : Nat} (hk0 : kd k0 = (11, n0)) {MO : Mem} {vo : Int32}   : ∀ (x0 : Int32) (x5 : Int32) (y0 : Int32) (M : Mem), mJ6_getChars_ba4f3_b12 k0 n0 x0 x5 y0 M = some (MO, vo) → At p l e (rmO 0 0 0) s m args below meth c 0 0 (MQ below (Qg G kd ad s.heap.size MO (some (.int vo))) args s 0 0 (AS kd ad s.heap.size)) G kd ad 7 12 [(0, .int x0), (2, .ref (ad k0)), (5, .int x5)] [.int y0] M := by
  intro x0 x5 y0 M hf H locs ls hI hl
  obtain ⟨hx, hb, hml, hr, hown, hts, hlk, hK, hap, hsx⟩ := id C
  unfold mJ6_getChars_ba4f3_b12 at hf
  refine lv_istore (lv' := [(6, .int y0), (0, .int x0), (2, .ref (ad k0)), (5, .int x5)]) hx hb (dc tbJ6_getChars_ba4f3_0_k 7 rfl) hl (by decide) rfl (fun ls hl => ?_)
  refine lv_iload hx hb (dc tbJ6_getChars_ba4f3_0_k 8 rfl) (lv_at hl 0 rfl) ?_
  refine lv_if_ne (tgt := 22) hx hb (dc tbJ6_getChars_ba4f3_0_k 9 rfl) rfl (fun c2 => ?_) (fun c2 => ?_)
  · have hf := ite_f c2 hf
    exact tJ6_getChars_ba4f3_l22 C hk0 5000 x0 x5 y0 M hf _ _ _ hI (lv_sub hl [1, 2, 3, 0] rfl)
  · have hf := ite_t c2 hf
    refine lv_iload_n hx hb (dc tbJ6_getChars_ba4f3_0_k 10 rfl) rfl (lv_at hl 1 rfl) ?_
    refine lv_ineg hx hb (dc tbJ6_getChars_ba4f3_0_k 11 rfl) ?_
    obtain ⟨x0_21, e32, hf⟩ := bnd_s hf
    refine lv_ei e32 ?_
    refine lv_istore_n (lv' := [(0, .int x0_21), (6, .int y0), (2, .ref (ad k0)), (5, .int x5)]) hx hb (dc tbJ6_getChars_ba4f3_0_k 12 rfl) rfl hl (by decide) rfl (fun ls hl => ?_)
    exact tJ6_getChars_ba4f3_l22 C hk0 5000 x0_21 x5 y0 M hf _ _ _ hI (lv_sub hl [0, 2, 3, 1] rfl)
def mJ6_getChars_ba4f3 (k0 : Nat) (n0 : Nat) (x0 : Int32) (x1 : Int32) (M : Mem) : Option (Mem × Int32) := ite2 (0 ≤ x0) (mJ6_getChars_ba4f3_b12 k0 n0 x0 x1 (0 : Int32) M) (mJ6_getChars_ba4f3_b12 k0 n0 x0 x1 (1 : Int32) M)
set_option maxHeartbeats 4000000 in
set_option maxRecDepth 100000 in
theorem tJ6_getChars_ba4f3 (l : Launch) {G : GT} {kd : Nat → Nat × Nat} {ad : Nat → Nat} {k0 : Nat} {n0 : Nat} (hk0 : kd k0 = (11, n0)) {x0 : Int32} {x1 : Int32} {M : Mem} {MO : Mem} {vo : Int32} (hf : mJ6_getChars_ba4f3 k0 n0 x0 x1 M = some (MO, vo)) (n : Nat) : Met l yJ6_getChars_ba4f3 (Cond.code yJ6_getChars_ba4f3 cJ6_getChars_ba4f3 7 (some .int) :: WA) (rmO 0 0 0) (Pg G kd ad n [.int x0, .int x1, .ref (ad k0)] M) (Qg G kd ad n MO (some (.int vo))) 0 0 (AS kd ad n) := by
  refine g_body (own := RJ6) (by decide) rfl ?_ (Nat.le_of_ble_eq_true rfl)
  intro p e s m args below meth c C _ H locs ls hI hl
  obtain ⟨hx, hb, hml, hr, hown, hts, hlk, hK, hap, hsx⟩ := id C
  have hl : lv_has ls 7 [(0, .int x0), (1, .int x1), (2, .ref (ad k0))] := hl
  unfold mJ6_getChars_ba4f3 at hf
  refine lv_iload_n hx hb (dc tbJ6_getChars_ba4f3_0_k 0 rfl) rfl (lv_at hl 1 rfl) ?_
  refine lv_istore (lv' := [(5, .int x1), (0, .int x0), (1, .int x1), (2, .ref (ad k0))]) hx hb (dc tbJ6_getChars_ba4f3_0_k 1 rfl) hl (by decide) rfl (fun ls hl => ?_)
  refine lv_iload_n hx hb (dc tbJ6_getChars_ba4f3_0_k 2 rfl) rfl (lv_at hl 1 rfl) ?_
  refine lv_if_ge (tgt := 11) hx hb (dc tbJ6_getChars_ba4f3_0_k 3 rfl) rfl (fun c1 => ?_) (fun c1 => ?_)
  · have hf := ite_t c1 hf
    refine lv_iconst (v := 0) hx hb (dc tbJ6_getChars_ba4f3_0_k 6 rfl) ic_0 ?_
    exact tJ6_getChars_ba4f3_b12 C hk0 x0 x1 (0 : Int32) M hf _ _ _ hI (lv_sub hl [1, 3, 0] rfl)
  · have hf := ite_f c1 hf
    refine lv_iconst (v := 1) hx hb (dc tbJ6_getChars_ba4f3_0_k 4 rfl) ic_1 ?_
    refine lv_goto (tgt := 12) hx hb (dc tbJ6_getChars_ba4f3_0_k 5 rfl) rfl ?_
    exact tJ6_getChars_ba4f3_b12 C hk0 x0 x1 (1 : Int32) M hf _ _ _ hI (lv_sub hl [1, 3, 0] rfl)
theorem cs_J6_getChars_ba4f3 : csF yJ6_getChars_ba4f3 cJ6_getChars_ba4f3 7 (some .int) 3 := ⟨q_t4_78, q_t1_17, q_t4_79, by decide +kernel⟩
def mJ8_newLength_cabcc_b21 (M : Mem) (x0 : Int32) (x1 : Int32) : Option Int32 := none
set_option maxHeartbeats 4000000 in
set_option maxRecDepth 100000 in
theorem tJ8_newLength_cabcc_b21 {p : Program} {l : Launch} {e : Env} {s : State} {m : MethodId} {args : Array Value} {below : List Frame} {meth : Method} {c : Code} {G : GT} {kd : Nat → Nat × Nat} {ad : Nat → Nat} (C : Cx p s m args meth c cJ8_newLength_cabcc 4 (some .int) RJ8 G kd ad)  {M : Mem} {vo : Int32}   : ∀ (x0 : Int32) (x1 : Int32), mJ8_newLength_cabcc_b21  M x0 x1 = some vo → At p l e (rmO 0 0 0) s m args below meth c 0 0 (MQ below (Qg G kd ad s.heap.size M (some (.int vo))) args s 0 0 (AS kd ad s.heap.size)) G kd ad 4 21 [(0, .int x0), (1, .int x1)] [] M := by
  intro x0 x1 hf H locs ls hI hl
  obtain ⟨hx, hb, hml, hr, hown, hts, hlk, hK, hap, hsx⟩ := id C
  unfold mJ8_newLength_cabcc_b21 at hf
  refine lv_iload_n hx hb (dc tbJ8_newLength_cabcc_k 14 rfl) rfl (lv_at hl 0 rfl) ?_
  refine lv_iload_n hx hb (dc tbJ8_newLength_cabcc_k 15 rfl) rfl (lv_at hl 1 rfl) ?_
  cases hf
def mJ8_newLength_cabcc (x0 : Int32) (x1 : Int32) (x2 : Int32) (M : Mem) : Option Int32 := bnd ((x0 + (imax x1 x2))) (fun x3_7 => ite2 (x3_7 ≤ (0 : Int32)) (mJ8_newLength_cabcc_b21  M x0 x1) (ite2 ((2147483639 : Int32) < x3_7) (mJ8_newLength_cabcc_b21  M x0 x1) (some x3_7)))
set_option maxHeartbeats 4000000 in
set_option maxRecDepth 100000 in
theorem tJ8_newLength_cabcc (l : Launch) {G : GT} {kd : Nat → Nat × Nat} {ad : Nat → Nat}  {x0 : Int32} {x1 : Int32} {x2 : Int32} {M : Mem} {vo : Int32} (hf : mJ8_newLength_cabcc  x0 x1 x2 M = some vo) (n : Nat) : Met l yJ8_newLength_cabcc (Cond.code yJ8_newLength_cabcc cJ8_newLength_cabcc 4 (some .int) :: WA) (rmO 0 0 0) (Pg G kd ad n [.int x0, .int x1, .int x2] M) (Qg G kd ad n M (some (.int vo))) 0 0 (AS kd ad n) := by
  refine g_body (own := RJ8) (by decide) rfl ?_ (Nat.le_of_ble_eq_true rfl)
  intro p e s m args below meth c C _ H locs ls hI hl
  obtain ⟨hx, hb, hml, hr, hown, hts, hlk, hK, hap, hsx⟩ := id C
  have hl : lv_has ls 4 [(0, .int x0), (1, .int x1), (2, .int x2)] := hl
  unfold mJ8_newLength_cabcc at hf
  refine lv_iload_n hx hb (dc tbJ8_newLength_cabcc_k 0 rfl) rfl (lv_at hl 0 rfl) ?_
  refine lv_iload_n hx hb (dc tbJ8_newLength_cabcc_k 1 rfl) rfl (lv_at hl 1 rfl) ?_
  refine lv_iload_n hx hb (dc tbJ8_newLength_cabcc_k 2 rfl) rfl (lv_at hl 2 rfl) ?_
  refine va_mmax hx hb (hml.trans hl.1.symm) hown (hts _ q_t3_229) (hts _ q_t3_230) (hts _ q_t1_12) (hts _ q_t3_231) (Nat.le_of_ble_eq_true rfl) (Nat.le_of_ble_eq_true rfl) (Nat.le_of_ble_eq_true rfl) (Nat.le_of_ble_eq_true rfl) (dc tbJ8_newLength_cabcc_k 3 rfl) ?_
  refine lv_et (show (if _ then _ else _) = (imax x1 x2) from rfl) ?_
  refine lv_iadd hx hb (dc tbJ8_newLength_cabcc_k 4 rfl) ?_
  obtain ⟨x3_7, e1, hf⟩ := bnd_s hf
  refine lv_ei e1 ?_
  refine lv_istore_n (lv' := [(3, .int x3_7), (0, .int x0), (1, .int x1), (2, .int x2)]) hx hb (dc tbJ8_newLength_cabcc_k 5 rfl) rfl hl (by decide) rfl (fun ls hl => ?_)
  refine lv_iconst (v := 0) hx hb (dc tbJ8_newLength_cabcc_k 6 rfl) ic_0 ?_
  refine lv_iload_n hx hb (dc tbJ8_newLength_cabcc_k 7 rfl) rfl (lv_at hl 0 rfl) ?_
  refine lv_icmp_ge (tgt := 21) hx hb (dc tbJ8_newLength_cabcc_k 8 rfl) rfl (fun c2 => ?_) (fun c2 => ?_)
  · have hf := ite_t c2 hf
    exact tJ8_newLength_cabcc_b21 C  x0 x1 hf _ _ _ hI (lv_sub hl [1, 2] rfl)
  · have hf := ite_f c2 hf
    refine lv_iload_n hx hb (dc tbJ8_newLength_cabcc_k 9 rfl) rfl (lv_at hl 0 rfl) ?_
    refine lv_ldc hx hb hown (hts _ q_t3_232) (dc tbJ8_newLength_cabcc_k 10 rfl) ?_
    refine lv_icmp_gt (tgt := 21) hx hb (dc tbJ8_newLength_cabcc_k 11 rfl) rfl (fun c3 => ?_) (fun c3 => ?_)
    · have hf := ite_t c3 hf
      exact tJ8_newLength_cabcc_b21 C  x0 x1 hf _ _ _ hI (lv_sub hl [1, 2] rfl)
    · have hf := ite_f c3 hf
      refine lv_iload_n hx hb (dc tbJ8_newLength_cabcc_k 12 rfl) rfl (lv_at hl 0 rfl) ?_
      cases hf
      exact g_iret hx hb hr hlk hI (dc tbJ8_newLength_cabcc_k 13 rfl)
theorem cs_J8_newLength_cabcc : csF yJ8_newLength_cabcc cJ8_newLength_cabcc 4 (some .int) 3 := ⟨q_t3_227, q_t1_11, q_t3_228, by decide +kernel⟩
def mL_among (x0 : Int32) (x1 : Int32) (M : Mem) : Option Int32 := chk (nzb x1) (bnd ((x0 - x0 / x1 * x1)) (fun x2_3 => ite2 (0 ≤ x2_3) (some x2_3) (some (x2_3 + x1))))
set_option maxHeartbeats 4000000 in
set_option maxRecDepth 100000 in
theorem tL_among (l : Launch) {G : GT} {kd : Nat → Nat × Nat} {ad : Nat → Nat}  {x0 : Int32} {x1 : Int32} {M : Mem} {vo : Int32} (hf : mL_among  x0 x1 M = some vo) (n : Nat) : Met l yL_among (Cond.code yL_among cL_among 3 (some .int) :: WA) (rmO 0 0 0) (Pg G kd ad n [.int x0, .int x1] M) (Qg G kd ad n M (some (.int vo))) 0 0 (AS kd ad n) := by
  refine g_body (own := RL) (by decide) rfl ?_ (Nat.le_of_ble_eq_true rfl)
  intro p e s m args below meth c C _ H locs ls hI hl
  obtain ⟨hx, hb, hml, hr, hown, hts, hlk, hK, hap, hsx⟩ := id C
  have hl : lv_has ls 3 [(0, .int x0), (1, .int x1)] := hl
  unfold mL_among at hf
  refine lv_iload_n hx hb (dc tbL_among_k 0 rfl) rfl (lv_at hl 0 rfl) ?_
  refine lv_iload_n hx hb (dc tbL_among_k 1 rfl) rfl (lv_at hl 1 rfl) ?_
  obtain ⟨h1, hf⟩ := chk_s hf
  refine lv_irem hx hb (dc tbL_among_k 2 rfl) (nz_b h1) ?_
  obtain ⟨x2_3, e2, hf⟩ := bnd_s hf
  refine lv_ei e2 ?_
  refine lv_istore_n (lv' := [(2, .int x2_3), (0, .int x0), (1, .int x1)]) hx hb (dc tbL_among_k 3 rfl) rfl hl (by decide) rfl (fun ls hl => ?_)
  refine lv_iload_n hx hb (dc tbL_among_k 4 rfl) rfl (lv_at hl 0 rfl) ?_
  refine lv_if_ge (tgt := 14) hx hb (dc tbL_among_k 5 rfl) rfl (fun c3 => ?_) (fun c3 => ?_)
  · have hf := ite_t c3 hf
    refine lv_iload_n hx hb (dc tbL_among_k 10 rfl) rfl (lv_at hl 0 rfl) ?_
    cases hf
    exact g_iret hx hb hr hlk hI (dc tbL_among_k 11 rfl)
  · have hf := ite_f c3 hf
    refine lv_iload_n hx hb (dc tbL_among_k 6 rfl) rfl (lv_at hl 0 rfl) ?_
    refine lv_iload_n hx hb (dc tbL_among_k 7 rfl) rfl (lv_at hl 2 rfl) ?_
    refine lv_iadd hx hb (dc tbL_among_k 8 rfl) ?_
    refine lv_goto (tgt := 15) hx hb (dc tbL_among_k 9 rfl) rfl ?_
    cases hf
    exact g_iret hx hb hr hlk hI (dc tbL_among_k 11 rfl)
theorem cs_L_among : csF yL_among cL_among 3 (some .int) 2 := ⟨q_t3_199, q_t1_0, q_t3_200, by decide +kernel⟩
def mL_sum_b5 (k0 : Nat) (b0 : Nat) (M : Mem) (ih5 : Int32 → Int32 → Int32 → Option Int32) (x2 : Int32) (x3 : Int32) (x4 : Int32) : Option Int32 := ite2 (x2 < x4) (some x3) (chk (okb x4 6) (bnd ((x3 + (rd M (k0 + 2) (x4).toNatClampNeg))) (fun x3_20 => bnd (x4 + (1 : Int32)) (fun x4_21 => ih5 x2 x3_20 x4_21))))
set_option maxHeartbeats 4000000 in
set_option maxRecDepth 100000 in
theorem tL_sum_b5 {p : Program} {l : Launch} {e : Env} {s : State} {m : MethodId} {args : Array Value} {below : List Frame} {meth : Method} {c : Code} {G : GT} {kd : Nat → Nat × Nat} {ad : Nat → Nat} (C : Cx p s m args meth c cL_sum 5 (some .int) RL G kd ad) {k0 : Nat} {b0 : Nat} (hk0 : kLaw b0 kd k0) {M : Mem} {vo : Int32} {ih5 : Int32 → Int32 → Int32 → Option Int32} (hih5 : ∀ (x2 : Int32) (x3 : Int32) (x4 : Int32), ih5 x2 x3 x4 = some vo → At p l e (rmO 0 0 0) s m args below meth c 0 0 (MQ below (Qg G kd ad s.heap.size M (some (.int vo))) args s 0 0 (AS kd ad s.heap.size)) G kd ad 5 5 [(0, .ref (ad k0)), (2, .int x2), (3, .int x3), (4, .int x4)] [] M) : ∀ (x2 : Int32) (x3 : Int32) (x4 : Int32), mL_sum_b5 k0 b0 M ih5 x2 x3 x4 = some vo → At p l e (rmO 0 0 0) s m args below meth c 0 0 (MQ below (Qg G kd ad s.heap.size M (some (.int vo))) args s 0 0 (AS kd ad s.heap.size)) G kd ad 5 5 [(0, .ref (ad k0)), (2, .int x2), (3, .int x3), (4, .int x4)] [] M := by
  intro x2 x3 x4 hf H locs ls hI hl
  obtain ⟨hx, hb, hml, hr, hown, hts, hlk, hK, hap, hsx⟩ := id C
  unfold mL_sum_b5 at hf
  refine lv_iload hx hb (dc tbL_sum_k 4 rfl) (lv_at hl 3 rfl) ?_
  refine lv_iload_n hx hb (dc tbL_sum_k 5 rfl) rfl (lv_at hl 1 rfl) ?_
  refine lv_icmp_gt (tgt := 27) hx hb (dc tbL_sum_k 6 rfl) rfl (fun c1 => ?_) (fun c1 => ?_)
  · have hf := ite_t c1 hf
    refine lv_iload_n hx hb (dc tbL_sum_k 16 rfl) rfl (lv_at hl 2 rfl) ?_
    cases hf
    exact g_iret hx hb hr hlk hI (dc tbL_sum_k 17 rfl)
  · have hf := ite_f c1 hf
    refine lv_iload_n hx hb (dc tbL_sum_k 7 rfl) rfl (lv_at hl 2 rfl) ?_
    refine lv_aload_n hx hb (dc tbL_sum_k 8 rfl) rfl (lv_at hl 0 rfl) ?_
    refine ggL_3 hx hb hts hown hK hI hk0.1 q_t2_194 (dc tbL_sum_k 9 rfl) ?_
    refine lv_iload hx hb (dc tbL_sum_k 10 rfl) (lv_at hl 3 rfl) ?_
    obtain ⟨h2, hf⟩ := chk_s hf
    refine g_iald hx hb hK hI hk0.2.1 (okb_in h2) (dc tbL_sum_k 11 rfl) ?_
    refine lv_iadd hx hb (dc tbL_sum_k 12 rfl) ?_
    obtain ⟨x3_20, e3, hf⟩ := bnd_s hf
    refine lv_ei e3 ?_
    refine lv_istore_n (lv' := [(3, .int x3_20), (0, .ref (ad k0)), (2, .int x2), (4, .int x4)]) hx hb (dc tbL_sum_k 13 rfl) rfl hl (by decide) rfl (fun ls hl => ?_)
    obtain ⟨x4_21, e4, hf⟩ := bnd_s hf
    refine lv_iinc (v := x4_21) (lv' := [(4, .int x4_21), (3, .int x3_20), (0, .ref (ad k0)), (2, .int x2)]) hx hb (dc tbL_sum_k 14 rfl) hl (k := 3) rfl (ii_e e4 ic_1) (by decide) rfl (fun ls hl => ?_)
    refine lv_goto (tgt := 5) hx hb (dc tbL_sum_k 15 rfl) rfl ?_
    exact hih5 x2 x3_20 x4_21 hf _ _ _ hI (lv_sub hl [2, 3, 1, 0] rfl)
def mL_sum_l5 (k0 : Nat) (b0 : Nat) (M : Mem) : Nat → Int32 → Int32 → Int32 → Option Int32
  | 0 => fun _ _ _ => none
  | n + 1 => mL_sum_b5 k0 b0 M (mL_sum_l5 k0 b0 M n)
theorem tL_sum_l5 {p : Program} {l : Launch} {e : Env} {s : State} {m : MethodId} {args : Array Value} {below : List Frame} {meth : Method} {c : Code} {G : GT} {kd : Nat → Nat × Nat} {ad : Nat → Nat} (C : Cx p s m args meth c cL_sum 5 (some .int) RL G kd ad) {k0 : Nat} {b0 : Nat} (hk0 : kLaw b0 kd k0) {M : Mem} {vo : Int32}   : ∀ (fuel : Nat) (x2 : Int32) (x3 : Int32) (x4 : Int32), mL_sum_l5 k0 b0 M fuel x2 x3 x4 = some vo → At p l e (rmO 0 0 0) s m args below meth c 0 0 (MQ below (Qg G kd ad s.heap.size M (some (.int vo))) args s 0 0 (AS kd ad s.heap.size)) G kd ad 5 5 [(0, .ref (ad k0)), (2, .int x2), (3, .int x3), (4, .int x4)] [] M := by
  intro fuel
  induction fuel with
  | zero => intro x2 x3 x4 hf; cases hf
  | succ n IH => exact tL_sum_b5 C hk0 IH
def mL_sum (k0 : Nat) (b0 : Nat) (x1 : Int32) (x2 : Int32) (M : Mem) : Option Int32 := mL_sum_l5 k0 b0 M 5000 x2 (0 : Int32) x1
set_option maxHeartbeats 4000000 in
set_option maxRecDepth 100000 in
theorem tL_sum (l : Launch) {G : GT} {kd : Nat → Nat × Nat} {ad : Nat → Nat} {k0 : Nat} {b0 : Nat} (hk0 : kLaw b0 kd k0) {x1 : Int32} {x2 : Int32} {M : Mem} {vo : Int32} (hf : mL_sum k0 b0 x1 x2 M = some vo) (n : Nat) : Met l yL_sum (Cond.code yL_sum cL_sum 5 (some .int) :: WA) (rmO 0 0 0) (Pg G kd ad n [.ref (ad k0), .int x1, .int x2] M) (Qg G kd ad n M (some (.int vo))) 0 0 (AS kd ad n) := by
  refine g_body (own := RL) (by decide) rfl ?_ (Nat.le_of_ble_eq_true rfl)
  intro p e s m args below meth c C _ H locs ls hI hl
  obtain ⟨hx, hb, hml, hr, hown, hts, hlk, hK, hap, hsx⟩ := id C
  have hl : lv_has ls 5 [(0, .ref (ad k0)), (1, .int x1), (2, .int x2)] := hl
  unfold mL_sum at hf
  refine lv_iconst (v := 0) hx hb (dc tbL_sum_k 0 rfl) ic_0 ?_
  refine lv_istore_n (lv' := [(3, .int (0 : Int32)), (0, .ref (ad k0)), (1, .int x1), (2, .int x2)]) hx hb (dc tbL_sum_k 1 rfl) rfl hl (by decide) rfl (fun ls hl => ?_)
  refine lv_iload_n hx hb (dc tbL_sum_k 2 rfl) rfl (lv_at hl 2 rfl) ?_
  refine lv_istore (lv' := [(4, .int x1), (3, .int (0 : Int32)), (0, .ref (ad k0)), (1, .int x1), (2, .int x2)]) hx hb (dc tbL_sum_k 3 rfl) hl (by decide) rfl (fun ls hl => ?_)
  exact tL_sum_l5 C hk0 5000 x2 (0 : Int32) x1 hf _ _ _ hI (lv_sub hl [2, 4, 1, 0] rfl)
theorem cv_L_sum : cvF RL yL_sum cL_sum 5 (some .int) 2 := ⟨q_t4_166, q_s1_15, q_t1_0, q_t4_167, by decide +kernel⟩
def mL_isNoBend (k0 : Nat) (x1 : Int32) (M : Mem) : Option (Mem × (Int32 ⊕ Nat)) := calt (mX6_gauge k0 x1 (2 : Int32) M) (fun M3 r2 => ite2 (r2 = (-7 : Int32)) (some (M3, Sum.inl (1 : Int32))) (some (M3, Sum.inl (0 : Int32)))) (fun M3 e4 => ite2 (e4 = 1) (some (M3, Sum.inl (1 : Int32))) (ite2 (e4 = 0) (some (M3, Sum.inl (0 : Int32))) (none)))
set_option maxHeartbeats 4000000 in
set_option maxRecDepth 100000 in
theorem tL_isNoBend (l : Launch) (hst : l.stackTraces = false) {G : GT} {kd : Nat → Nat × Nat} {ad : Nat → Nat} {k0 : Nat} (hk0 : kRoot kd k0) {x1 : Int32} {M : Mem} {MO : Mem} {vo : Int32 ⊕ Nat} (hf : mL_isNoBend k0 x1 M = some (MO, vo)) (n : Nat) : vx_Met l yL_isNoBend (Cond.codeWith yL_isNoBend cL_isNoBend 3 (some .boolean) [(0, 16, 17, 171), (0, 16, 20, 173)] :: WA) (rmO 4 2 12) (Pn G kd ad n [.ref (ad k0), .int x1] M) (Qx G kd ad n MO (zi vo)) (Xx G kd ad n MO (zi vo)) 2 12 (AS kd ad n) := by
  refine g_bodyXH (own := RL) (by decide) rfl ?_ (Nat.le_of_ble_eq_true rfl)
  intro p e s m args below meth c C htb hnc _ H locs ls hI hl
  obtain ⟨hx, hb, hml, hr, hown, hts, hlk, hK, hap, hsx⟩ := id C
  have hl : lv_has ls 3 [(0, .ref (ad k0)), (1, .int x1)] := hl
  unfold mL_isNoBend at hf
  refine lv_aload_n hx hb (dc tbL_isNoBend_k 0 rfl) rfl (lv_at hl 0 rfl) ?_
  refine lv_iload_n hx hb (dc tbL_isNoBend_k 1 rfl) rfl (lv_at hl 1 rfl) ?_
  refine lv_iconst (v := 2) hx hb (dc tbL_isNoBend_k 2 rfl) ic_2 ?_
  rcases calt_s hf with ⟨M3, r2, q1, hf⟩ | ⟨M3, e4, q1, hf⟩
  · refine x_callRi (g_runXV hx hb hml hown hts hK hap hsx hI (tX6_gauge l hst hk0 q1 H.size) cv_X6_gauge q_t4_168 rfl rfl ⟨Nat.le_of_ble_eq_true rfl, Nat.le_of_ble_eq_true rfl⟩ hk0.1 (by simp) rfl rfl rfl hl.1 rfl (Nat.le_of_ble_eq_true rfl) (dc tbL_isNoBend_k 3 rfl) ⟨Nat.le_of_ble_eq_true rfl, Nat.le_of_ble_eq_true rfl⟩) hI (fun H locs hI => ?_)
    refine lv_bipush (v := -7) hx hb (dc tbL_isNoBend_k 4 rfl) bp_m7 ?_
    refine lv_icmp_ne (tgt := 15) hx hb (dc tbL_isNoBend_k 5 rfl) rfl (fun c5 => ?_) (fun c5 => ?_)
    · have hf := ite_f c5 hf
      refine lv_iconst (v := 0) hx hb (dc tbL_isNoBend_k 8 rfl) ic_0 ?_
      cases hf
      exact x_ret (g_zret hx hb hr hlk hI rfl (dc tbL_isNoBend_k 9 rfl))
    · have hf := ite_t c5 hf
      refine lv_iconst (v := 1) hx hb (dc tbL_isNoBend_k 6 rfl) ic_1 ?_
      refine lv_goto (tgt := 16) hx hb (dc tbL_isNoBend_k 7 rfl) rfl ?_
      cases hf
      exact x_ret (g_zret hx hb hr hlk hI rfl (dc tbL_isNoBend_k 9 rfl))
  · refine by_c (c := e4 = 1) (fun c6 => ?_) (fun c6 => ?_)
    · have hf := ite_t c6 hf
      subst c6
      refine x_callC (E := "java/lang/IndexOutOfBoundsException") (g_runXV hx hb hml hown hts hK hap hsx hI (tX6_gauge l hst hk0 q1 H.size) cv_X6_gauge q_t4_168 rfl rfl ⟨Nat.le_of_ble_eq_true rfl, Nat.le_of_ble_eq_true rfl⟩ hk0.1 (by simp) rfl rfl rfl hl.1 rfl (Nat.le_of_ble_eq_true rfl) (dc tbL_isNoBend_k 3 rfl) ⟨Nat.le_of_ble_eq_true rfl, Nat.le_of_ble_eq_true rfl⟩) hI hown hts hsx rfl htb [] ⟨0, 16, 17, 171⟩ [⟨0, 16, 20, 173⟩] rfl (fun _ h => absurd h List.not_mem_nil) (by decide) (by decide) q_t5_66 (by decide +kernel) rfl (fun qx H locs hI => ?_)
      refine lv_astore_n (lv' := [(2, .ref qx), (0, .ref (ad k0)), (1, .int x1)]) hx hb (dc tbL_isNoBend_k 10 rfl) rfl hl (by decide) rfl (fun ls hl => ?_)
      refine lv_iconst (v := 1) hx hb (dc tbL_isNoBend_k 11 rfl) ic_1 ?_
      cases hf
      exact x_ret (g_zret hx hb hr hlk hI rfl (dc tbL_isNoBend_k 12 rfl))
    · have hf := ite_f c6 hf
      refine by_c (c := e4 = 0) (fun c7 => ?_) (fun c7 => ?_)
      · have hf := ite_t c7 hf
        subst c7
        refine x_callC (E := "java/lang/IllegalArgumentException") (g_runXV hx hb hml hown hts hK hap hsx hI (tX6_gauge l hst hk0 q1 H.size) cv_X6_gauge q_t4_168 rfl rfl ⟨Nat.le_of_ble_eq_true rfl, Nat.le_of_ble_eq_true rfl⟩ hk0.1 (by simp) rfl rfl rfl hl.1 rfl (Nat.le_of_ble_eq_true rfl) (dc tbL_isNoBend_k 3 rfl) ⟨Nat.le_of_ble_eq_true rfl, Nat.le_of_ble_eq_true rfl⟩) hI hown hts hsx rfl htb [⟨0, 16, 17, 171⟩] ⟨0, 16, 20, 173⟩ [] rfl (List.forall_mem_cons.mpr ⟨⟨by decide, "java/lang/IndexOutOfBoundsException", q_t5_66, hnc.1⟩, fun _ h => absurd h List.not_mem_nil⟩) (by decide) (by decide) q_t5_67 (by decide +kernel) rfl (fun qx H locs hI => ?_)
        refine lv_astore_n (lv' := [(2, .ref qx), (0, .ref (ad k0)), (1, .int x1)]) hx hb (dc tbL_isNoBend_k 13 rfl) rfl hl (by decide) rfl (fun ls hl => ?_)
        refine lv_iconst (v := 0) hx hb (dc tbL_isNoBend_k 14 rfl) ic_0 ?_
        cases hf
        exact x_ret (g_zret hx hb hr hlk hI rfl (dc tbL_isNoBend_k 15 rfl))
      · have hf := ite_f c7 hf
        cases hf
theorem ch_L_isNoBend : Cond.static yL_isNoBend ∈ WA ∧ Cond.initialized yL_isNoBend.cls ∈ WA ∧ Cond.codeWith yL_isNoBend cL_isNoBend 3 (some .boolean) [(0, 16, 17, 171), (0, 16, 20, 173)] ∈ WA ∧ (yL_isNoBend.cls ≠ "java/lang/invoke/MethodHandle" ∧ yL_isNoBend.cls ≠ "java/lang/invoke/VarHandle" ∧ (parseMethodDescriptor yL_isNoBend.desc).map (fun d => d.parameters.length) = some 2) := ⟨q_t5_64, q_t1_0, q_t5_65, by decide +kernel⟩
def mL_isNoSide (k0 : Nat) (M : Mem) : Option (Mem × (Int32 ⊕ Nat)) := calt (mX6_reason k0 (0 : Int32) (2 : Int32) M) (fun M3 r2 => ite2 (r2 = (-7 : Int32)) (some (M3, Sum.inl (1 : Int32))) (some (M3, Sum.inl (0 : Int32)))) (fun M3 e4 => ite2 (e4 = 0) (some (M3, Sum.inl (1 : Int32))) (none))
set_option maxHeartbeats 4000000 in
set_option maxRecDepth 100000 in
theorem tL_isNoSide (l : Launch) (hst : l.stackTraces = false) {G : GT} {kd : Nat → Nat × Nat} {ad : Nat → Nat} {k0 : Nat} (hk0 : kRoot kd k0) {M : Mem} {MO : Mem} {vo : Int32 ⊕ Nat} (hf : mL_isNoSide k0 M = some (MO, vo)) (n : Nat) : vx_Met l yL_isNoSide (Cond.codeWith yL_isNoSide cL_isNoSide 2 (some .boolean) [(0, 16, 17, 173)] :: WA) (rmO 5 2 12) (Pn G kd ad n [.ref (ad k0)] M) (Qx G kd ad n MO (zi vo)) (Xx G kd ad n MO (zi vo)) 2 12 (AS kd ad n) := by
  refine g_bodyXH (own := RL) (by decide) rfl ?_ (Nat.le_of_ble_eq_true rfl)
  intro p e s m args below meth c C htb hnc _ H locs ls hI hl
  obtain ⟨hx, hb, hml, hr, hown, hts, hlk, hK, hap, hsx⟩ := id C
  have hl : lv_has ls 2 [(0, .ref (ad k0))] := hl
  unfold mL_isNoSide at hf
  refine lv_aload_n hx hb (dc tbL_isNoSide_k 0 rfl) rfl (lv_at hl 0 rfl) ?_
  refine lv_iconst (v := 0) hx hb (dc tbL_isNoSide_k 1 rfl) ic_0 ?_
  refine lv_iconst (v := 2) hx hb (dc tbL_isNoSide_k 2 rfl) ic_2 ?_
  rcases calt_s hf with ⟨M3, r2, q1, hf⟩ | ⟨M3, e4, q1, hf⟩
  · refine x_callRi (g_runXV hx hb hml hown hts hK hap hsx hI (tX6_reason l hst hk0 q1 H.size) cv_X6_reason q_t4_223 rfl rfl ⟨Nat.le_of_ble_eq_true rfl, Nat.le_of_ble_eq_true rfl⟩ hk0.1 (by simp) rfl rfl rfl hl.1 rfl (Nat.le_of_ble_eq_true rfl) (dc tbL_isNoSide_k 3 rfl) ⟨Nat.le_of_ble_eq_true rfl, Nat.le_of_ble_eq_true rfl⟩) hI (fun H locs hI => ?_)
    refine lv_bipush (v := -7) hx hb (dc tbL_isNoSide_k 4 rfl) bp_m7 ?_
    refine lv_icmp_ne (tgt := 15) hx hb (dc tbL_isNoSide_k 5 rfl) rfl (fun c5 => ?_) (fun c5 => ?_)
    · have hf := ite_f c5 hf
      refine lv_iconst (v := 0) hx hb (dc tbL_isNoSide_k 8 rfl) ic_0 ?_
      cases hf
      exact x_ret (g_zret hx hb hr hlk hI rfl (dc tbL_isNoSide_k 9 rfl))
    · have hf := ite_t c5 hf
      refine lv_iconst (v := 1) hx hb (dc tbL_isNoSide_k 6 rfl) ic_1 ?_
      refine lv_goto (tgt := 16) hx hb (dc tbL_isNoSide_k 7 rfl) rfl ?_
      cases hf
      exact x_ret (g_zret hx hb hr hlk hI rfl (dc tbL_isNoSide_k 9 rfl))
  · refine by_c (c := e4 = 0) (fun c6 => ?_) (fun c6 => ?_)
    · have hf := ite_t c6 hf
      subst c6
      refine x_callC (E := "java/lang/IllegalArgumentException") (g_runXV hx hb hml hown hts hK hap hsx hI (tX6_reason l hst hk0 q1 H.size) cv_X6_reason q_t4_223 rfl rfl ⟨Nat.le_of_ble_eq_true rfl, Nat.le_of_ble_eq_true rfl⟩ hk0.1 (by simp) rfl rfl rfl hl.1 rfl (Nat.le_of_ble_eq_true rfl) (dc tbL_isNoSide_k 3 rfl) ⟨Nat.le_of_ble_eq_true rfl, Nat.le_of_ble_eq_true rfl⟩) hI hown hts hsx rfl htb [] ⟨0, 16, 17, 173⟩ [] rfl (fun _ h => absurd h List.not_mem_nil) (by decide) (by decide) q_t5_67 (by decide +kernel) rfl (fun qx H locs hI => ?_)
      refine lv_astore_n (lv' := [(1, .ref qx), (0, .ref (ad k0))]) hx hb (dc tbL_isNoSide_k 10 rfl) rfl hl (by decide) rfl (fun ls hl => ?_)
      refine lv_iconst (v := 1) hx hb (dc tbL_isNoSide_k 11 rfl) ic_1 ?_
      cases hf
      exact x_ret (g_zret hx hb hr hlk hI rfl (dc tbL_isNoSide_k 12 rfl))
    · have hf := ite_f c6 hf
      cases hf
theorem ch_L_isNoSide : Cond.static yL_isNoSide ∈ WA ∧ Cond.initialized yL_isNoSide.cls ∈ WA ∧ Cond.codeWith yL_isNoSide cL_isNoSide 2 (some .boolean) [(0, 16, 17, 173)] ∈ WA ∧ (yL_isNoSide.cls ≠ "java/lang/invoke/MethodHandle" ∧ yL_isNoSide.cls ≠ "java/lang/invoke/VarHandle" ∧ (parseMethodDescriptor yL_isNoSide.desc).map (fun d => d.parameters.length) = some 1) := ⟨q_t5_69, q_t1_0, q_t5_70, by decide +kernel⟩
def mL_isNoStep_b31 (k0 : Nat) (k1 : Nat) (b1 : Nat) (y0 : Int32) (M : Mem) : Option (Mem × (Int32 ⊕ Nat)) := calt (mX6_fold k0 (0 : Int32) (0 : Int32) M) (fun M5 r4 => ite2 (r4 = 0) (ite2 (y0 = 0) (some (M5, Sum.inl (0 : Int32))) (some (M5, Sum.inl (1 : Int32)))) (some (M5, Sum.inl (0 : Int32)))) (fun M5 e6 => ite2 (e6 = 2) (ite2 (y0 = 0) (some (M5, Sum.inl (1 : Int32))) (some (M5, Sum.inl (0 : Int32)))) (none))
set_option maxHeartbeats 4000000 in
set_option maxRecDepth 100000 in
theorem tL_isNoStep_b31 {p : Program} {l : Launch} {e : Env} {s : State} {m : MethodId} {args : Array Value} {below : List Frame} {meth : Method} {c : Code} {G : GT} {kd : Nat → Nat × Nat} {ad : Nat → Nat} (C : Cx p s m args meth c cL_isNoStep 4 (some .boolean) RL G kd ad) (hst : l.stackTraces = false) (htb : c.exceptionTable.toList = tableOf [(32, 50, 51, 178)]) (hnc : Nc s) {k0 : Nat} {k1 : Nat} {b1 : Nat} (hk0 : kRoot kd k0) (hk1 : kLaw b1 kd k1) {MO : Mem} {vo : Int32 ⊕ Nat}   : ∀ (y0 : Int32) (M : Mem), mL_isNoStep_b31 k0 k1 b1 y0 M = some (MO, vo) → At p l e (rmO 6 3 18) s m args below meth c 0 0 (XQ G kd ad below args s MO (zi vo) 3 18) G kd ad 4 31 [(0, .ref (ad k0))] [.int y0] M := by
  intro y0 M hf H locs ls hI hl
  obtain ⟨hx, hb, hml, hr, hown, hts, hlk, hK, hap, hsx⟩ := id C
  unfold mL_isNoStep_b31 at hf
  refine lv_istore_n (lv' := [(2, .int y0), (0, .ref (ad k0))]) hx hb (dc tbL_isNoStep_k 17 rfl) rfl hl (by decide) rfl (fun ls hl => ?_)
  refine lv_aload_n hx hb (dc tbL_isNoStep_k 18 rfl) rfl (lv_at hl 1 rfl) ?_
  refine lv_iconst (v := 0) hx hb (dc tbL_isNoStep_k 19 rfl) ic_0 ?_
  refine lv_iconst (v := 0) hx hb (dc tbL_isNoStep_k 20 rfl) ic_0 ?_
  rcases calt_s hf with ⟨M5, r4, q3, hf⟩ | ⟨M5, e6, q3, hf⟩
  · refine x_callRi (g_runXV hx hb hml hown hts hK hap hsx hI (tX6_fold l hst hk0 q3 H.size) cv_X6_fold q_t5_75 rfl rfl ⟨Nat.le_of_ble_eq_true rfl, Nat.le_of_ble_eq_true rfl⟩ hk0.1 (by simp) rfl rfl rfl hl.1 rfl (Nat.le_of_ble_eq_true rfl) (dc tbL_isNoStep_k 21 rfl) ⟨Nat.le_of_ble_eq_true rfl, Nat.le_of_ble_eq_true rfl⟩) hI (fun H locs hI => ?_)
    refine lv_if_ne (tgt := 49) hx hb (dc tbL_isNoStep_k 22 rfl) rfl (fun c7 => ?_) (fun c7 => ?_)
    · have hf := ite_f c7 hf
      refine lv_iconst (v := 0) hx hb (dc tbL_isNoStep_k 27 rfl) ic_0 ?_
      cases hf
      exact x_ret (g_zret hx hb hr hlk hI rfl (dc tbL_isNoStep_k 28 rfl))
    · have hf := ite_t c7 hf
      refine lv_iload_n hx hb (dc tbL_isNoStep_k 23 rfl) rfl (lv_at hl 0 rfl) ?_
      refine lv_if_eq (tgt := 49) hx hb (dc tbL_isNoStep_k 24 rfl) rfl (fun c8 => ?_) (fun c8 => ?_)
      · have hf := ite_t c8 hf
        refine lv_iconst (v := 0) hx hb (dc tbL_isNoStep_k 27 rfl) ic_0 ?_
        cases hf
        exact x_ret (g_zret hx hb hr hlk hI rfl (dc tbL_isNoStep_k 28 rfl))
      · have hf := ite_f c8 hf
        refine lv_iconst (v := 1) hx hb (dc tbL_isNoStep_k 25 rfl) ic_1 ?_
        refine lv_goto (tgt := 50) hx hb (dc tbL_isNoStep_k 26 rfl) rfl ?_
        cases hf
        exact x_ret (g_zret hx hb hr hlk hI rfl (dc tbL_isNoStep_k 28 rfl))
  · refine by_c (c := e6 = 2) (fun c9 => ?_) (fun c9 => ?_)
    · have hf := ite_t c9 hf
      subst c9
      refine x_callC (E := "java/lang/IllegalStateException") (g_runXV hx hb hml hown hts hK hap hsx hI (tX6_fold l hst hk0 q3 H.size) cv_X6_fold q_t5_75 rfl rfl ⟨Nat.le_of_ble_eq_true rfl, Nat.le_of_ble_eq_true rfl⟩ hk0.1 (by simp) rfl rfl rfl hl.1 rfl (Nat.le_of_ble_eq_true rfl) (dc tbL_isNoStep_k 21 rfl) ⟨Nat.le_of_ble_eq_true rfl, Nat.le_of_ble_eq_true rfl⟩) hI hown hts hsx rfl htb [] ⟨32, 50, 51, 178⟩ [] rfl (fun _ h => absurd h List.not_mem_nil) (by decide) (by decide) q_t5_74 (by decide +kernel) rfl (fun qx H locs hI => ?_)
      refine lv_astore_n (lv' := [(3, .ref qx), (2, .int y0), (0, .ref (ad k0))]) hx hb (dc tbL_isNoStep_k 29 rfl) rfl hl (by decide) rfl (fun ls hl => ?_)
      refine lv_iload_n hx hb (dc tbL_isNoStep_k 30 rfl) rfl (lv_at hl 1 rfl) ?_
      refine lv_if_ne (tgt := 60) hx hb (dc tbL_isNoStep_k 31 rfl) rfl (fun c10 => ?_) (fun c10 => ?_)
      · have hf := ite_f c10 hf
        refine lv_iconst (v := 0) hx hb (dc tbL_isNoStep_k 34 rfl) ic_0 ?_
        cases hf
        exact x_ret (g_zret hx hb hr hlk hI rfl (dc tbL_isNoStep_k 35 rfl))
      · have hf := ite_t c10 hf
        refine lv_iconst (v := 1) hx hb (dc tbL_isNoStep_k 32 rfl) ic_1 ?_
        refine lv_goto (tgt := 61) hx hb (dc tbL_isNoStep_k 33 rfl) rfl ?_
        cases hf
        exact x_ret (g_zret hx hb hr hlk hI rfl (dc tbL_isNoStep_k 35 rfl))
    · have hf := ite_f c9 hf
      cases hf
def mL_isNoStep_b30 (k0 : Nat) (k1 : Nat) (b1 : Nat) (M : Mem) : Option (Mem × (Int32 ⊕ Nat)) := mL_isNoStep_b31 k0 k1 b1 (0 : Int32) M
set_option maxHeartbeats 4000000 in
set_option maxRecDepth 100000 in
theorem tL_isNoStep_b30 {p : Program} {l : Launch} {e : Env} {s : State} {m : MethodId} {args : Array Value} {below : List Frame} {meth : Method} {c : Code} {G : GT} {kd : Nat → Nat × Nat} {ad : Nat → Nat} (C : Cx p s m args meth c cL_isNoStep 4 (some .boolean) RL G kd ad) (hst : l.stackTraces = false) (htb : c.exceptionTable.toList = tableOf [(32, 50, 51, 178)]) (hnc : Nc s) {k0 : Nat} {k1 : Nat} {b1 : Nat} (hk0 : kRoot kd k0) (hk1 : kLaw b1 kd k1) {MO : Mem} {vo : Int32 ⊕ Nat}   : ∀  (M : Mem), mL_isNoStep_b30 k0 k1 b1 M = some (MO, vo) → At p l e (rmO 6 3 18) s m args below meth c 0 0 (XQ G kd ad below args s MO (zi vo) 3 18) G kd ad 4 30 [(0, .ref (ad k0))] [] M := by
  intro M hf H locs ls hI hl
  obtain ⟨hx, hb, hml, hr, hown, hts, hlk, hK, hap, hsx⟩ := id C
  unfold mL_isNoStep_b30 at hf
  refine lv_iconst (v := 0) hx hb (dc tbL_isNoStep_k 16 rfl) ic_0 ?_
  exact tL_isNoStep_b31 C hst htb hnc hk0 hk1 (0 : Int32) M hf _ _ _ hI (lv_sub hl [0] rfl)
def mL_isNoStep (k0 : Nat) (k1 : Nat) (b1 : Nat) (M : Mem) : Option (Mem × (Int32 ⊕ Nat)) := chk (okb (1 : Int32) 6) (ite2 ((rd M (k1 + 2) ((1 : Int32)).toNatClampNeg) < (rd M k1 7)) (mL_isNoStep_b30 k0 k1 b1 M) (chk (okb (0 : Int32) 6) (ite2 ((rd M k1 8) < (rd M (k1 + 2) ((0 : Int32)).toNatClampNeg)) (mL_isNoStep_b30 k0 k1 b1 M) (mL_isNoStep_b31 k0 k1 b1 (1 : Int32) M))))
set_option maxHeartbeats 4000000 in
set_option maxRecDepth 100000 in
theorem tL_isNoStep (l : Launch) (hst : l.stackTraces = false) {G : GT} {kd : Nat → Nat × Nat} {ad : Nat → Nat} {k0 : Nat} {k1 : Nat} {b1 : Nat} (hk0 : kRoot kd k0) (hk1 : kLaw b1 kd k1) {M : Mem} {MO : Mem} {vo : Int32 ⊕ Nat} (hf : mL_isNoStep k0 k1 b1 M = some (MO, vo)) (n : Nat) : vx_Met l yL_isNoStep (Cond.codeWith yL_isNoStep cL_isNoStep 4 (some .boolean) [(32, 50, 51, 178)] :: WA) (rmO 6 3 18) (Pn G kd ad n [.ref (ad k0), .ref (ad k1)] M) (Qx G kd ad n MO (zi vo)) (Xx G kd ad n MO (zi vo)) 3 18 (AS kd ad n) := by
  refine g_bodyXH (own := RL) (by decide) rfl ?_ (Nat.le_of_ble_eq_true rfl)
  intro p e s m args below meth c C htb hnc _ H locs ls hI hl
  obtain ⟨hx, hb, hml, hr, hown, hts, hlk, hK, hap, hsx⟩ := id C
  have hl : lv_has ls 4 [(0, .ref (ad k0)), (1, .ref (ad k1))] := hl
  unfold mL_isNoStep at hf
  refine lv_aload_n hx hb (dc tbL_isNoStep_k 0 rfl) rfl (lv_at hl 1 rfl) ?_
  refine ggL_3 hx hb hts hown hK hI hk1.1 q_t2_194 (dc tbL_isNoStep_k 1 rfl) ?_
  refine lv_iconst (v := 1) hx hb (dc tbL_isNoStep_k 2 rfl) ic_1 ?_
  obtain ⟨h1, hf⟩ := chk_s hf
  refine g_iald hx hb hK hI hk1.2.1 (okb_in h1) (dc tbL_isNoStep_k 3 rfl) ?_
  refine lv_aload_n hx hb (dc tbL_isNoStep_k 4 rfl) rfl (lv_at hl 1 rfl) ?_
  refine ggL_7 hx hb hts hown hK hI hk1.1 q_t2_198 (dc tbL_isNoStep_k 5 rfl) ?_
  refine lv_icmp_lt (tgt := 30) hx hb (dc tbL_isNoStep_k 6 rfl) rfl (fun c2 => ?_) (fun c2 => ?_)
  · have hf := ite_t c2 hf
    exact tL_isNoStep_b30 C hst htb hnc hk0 hk1 M hf _ _ _ hI (lv_sub hl [0] rfl)
  · have hf := ite_f c2 hf
    refine lv_aload_n hx hb (dc tbL_isNoStep_k 7 rfl) rfl (lv_at hl 1 rfl) ?_
    refine ggL_3 hx hb hts hown hK hI hk1.1 q_t2_194 (dc tbL_isNoStep_k 8 rfl) ?_
    refine lv_iconst (v := 0) hx hb (dc tbL_isNoStep_k 9 rfl) ic_0 ?_
    obtain ⟨h11, hf⟩ := chk_s hf
    refine g_iald hx hb hK hI hk1.2.1 (okb_in h11) (dc tbL_isNoStep_k 10 rfl) ?_
    refine lv_aload_n hx hb (dc tbL_isNoStep_k 11 rfl) rfl (lv_at hl 1 rfl) ?_
    refine ggL_8 hx hb hts hown hK hI hk1.1 q_t2_199 (dc tbL_isNoStep_k 12 rfl) ?_
    refine lv_icmp_gt (tgt := 30) hx hb (dc tbL_isNoStep_k 13 rfl) rfl (fun c12 => ?_) (fun c12 => ?_)
    · have hf := ite_t c12 hf
      exact tL_isNoStep_b30 C hst htb hnc hk0 hk1 M hf _ _ _ hI (lv_sub hl [0] rfl)
    · have hf := ite_f c12 hf
      refine lv_iconst (v := 1) hx hb (dc tbL_isNoStep_k 14 rfl) ic_1 ?_
      refine lv_goto (tgt := 31) hx hb (dc tbL_isNoStep_k 15 rfl) rfl ?_
      exact tL_isNoStep_b31 C hst htb hnc hk0 hk1 (1 : Int32) M hf _ _ _ hI (lv_sub hl [0] rfl)
theorem ch_L_isNoStep : Cond.static yL_isNoStep ∈ WA ∧ Cond.initialized yL_isNoStep.cls ∈ WA ∧ Cond.codeWith yL_isNoStep cL_isNoStep 4 (some .boolean) [(32, 50, 51, 178)] ∈ WA ∧ (yL_isNoStep.cls ≠ "java/lang/invoke/MethodHandle" ∧ yL_isNoStep.cls ≠ "java/lang/invoke/VarHandle" ∧ (parseMethodDescriptor yL_isNoStep.desc).map (fun d => d.parameters.length) = some 2) := ⟨q_t5_72, q_t1_0, q_t5_73, by decide +kernel⟩
def mL_isStep_b306 (k0 : Nat) (b0 : Nat) (k1 : Nat) (y0 : Int32) (y1 : Int32) (M : Mem) : Option (Mem × (Int32 ⊕ Nat)) := ite2 (y0 = y1) (some (M, Sum.inl (1 : Int32))) (some (M, Sum.inl (0 : Int32)))
set_option maxHeartbeats 4000000 in
set_option maxRecDepth 100000 in
theorem tL_isStep_nt_b306 {p : Program} {l : Launch} {e : Env} {s : State} {m : MethodId} {args : Array Value} {below : List Frame} {meth : Method} {c : Code} {G : GT} {kd : Nat → Nat × Nat} {ad : Nat → Nat} (C : Cx p s m args meth c cL_isStep 12 (some .boolean) RL G kd ad) {k0 : Nat} {b0 : Nat} {k1 : Nat} (hk0 : kLaw b0 kd k0) (hk1 : kRoot kd k1) {MO : Mem} {vo : Int32}   : ∀ (y0 : Int32) (y1 : Int32) (M : Mem), mL_isStep_b306 k0 b0 k1 y0 y1 M = some (MO, Sum.inl vo) → At p l e (rmO 5 0 0) s m args below meth c 0 0 (MQ below (Qg G kd ad s.heap.size MO (some (.int vo))) args s 0 0 (AS kd ad s.heap.size)) G kd ad 12 306 [] [.int y1, .int y0] M := by
  intro y0 y1 M hf H locs ls hI hl
  obtain ⟨hx, hb, hml, hr, hown, hts, hlk, hK, hap, hsx⟩ := id C
  unfold mL_isStep_b306 at hf
  refine lv_icmp_ne (tgt := 313) hx hb (dc tbL_isStep_4_k 10 rfl) rfl (fun c38 => ?_) (fun c38 => ?_)
  · have hf := ite_f c38 hf
    refine lv_iconst (v := 0) hx hb (dc tbL_isStep_4_k 13 rfl) ic_0 ?_
    cases hf
    exact g_zret hx hb hr hlk hI rfl (dc tbL_isStep_4_k 14 rfl)
  · have hf := ite_t c38 hf
    refine lv_iconst (v := 1) hx hb (dc tbL_isStep_4_k 11 rfl) ic_1 ?_
    refine lv_goto (tgt := 314) hx hb (dc tbL_isStep_4_k 12 rfl) rfl ?_
    cases hf
    exact g_zret hx hb hr hlk hI rfl (dc tbL_isStep_4_k 14 rfl)
def mL_isStep_b273 (k0 : Nat) (b0 : Nat) (k1 : Nat) (ih160 : Int32 → Int32 → Int32 → Int32 → Mem → Option (Mem × (Int32 ⊕ Nat))) (x2 : Int32) (x3 : Int32) (x7 : Int32) (x8 : Int32) (y0 : Int32) (y1 : Int32) (M : Mem) : Option (Mem × (Int32 ⊕ Nat)) := ite2 (y0 = y1) (bnd (x8 + (1 : Int32)) (fun x8_278 => ih160 x2 x3 x7 x8_278 M)) (some (M, Sum.inl (0 : Int32)))
set_option maxHeartbeats 4000000 in
set_option maxRecDepth 100000 in
theorem tL_isStep_nt_b273 {p : Program} {l : Launch} {e : Env} {s : State} {m : MethodId} {args : Array Value} {below : List Frame} {meth : Method} {c : Code} {G : GT} {kd : Nat → Nat × Nat} {ad : Nat → Nat} (C : Cx p s m args meth c cL_isStep 12 (some .boolean) RL G kd ad) {k0 : Nat} {b0 : Nat} {k1 : Nat} (hk0 : kLaw b0 kd k0) (hk1 : kRoot kd k1) {MO : Mem} {vo : Int32} {ih160 : Int32 → Int32 → Int32 → Int32 → Mem → Option (Mem × (Int32 ⊕ Nat))} (hih160 : ∀ (x2 : Int32) (x3 : Int32) (x7 : Int32) (x8 : Int32) (M : Mem), ih160 x2 x3 x7 x8 M = some (MO, Sum.inl vo) → At p l e (rmO 5 0 0) s m args below meth c 0 0 (MQ below (Qg G kd ad s.heap.size MO (some (.int vo))) args s 0 0 (AS kd ad s.heap.size)) G kd ad 12 160 [(0, .ref (ad k0)), (1, .ref (ad k1)), (2, .int x2), (3, .int x3), (7, .int x7), (8, .int x8)] [] M) : ∀ (x2 : Int32) (x3 : Int32) (x7 : Int32) (x8 : Int32) (y0 : Int32) (y1 : Int32) (M : Mem), mL_isStep_b273 k0 b0 k1 ih160 x2 x3 x7 x8 y0 y1 M = some (MO, Sum.inl vo) → At p l e (rmO 5 0 0) s m args below meth c 0 0 (MQ below (Qg G kd ad s.heap.size MO (some (.int vo))) args s 0 0 (AS kd ad s.heap.size)) G kd ad 12 273 [(0, .ref (ad k0)), (1, .ref (ad k1)), (2, .int x2), (3, .int x3), (7, .int x7), (8, .int x8)] [.int y1, .int y0] M := by
  intro x2 x3 x7 x8 y0 y1 M hf H locs ls hI hl
  obtain ⟨hx, hb, hml, hr, hown, hts, hlk, hK, hap, hsx⟩ := id C
  unfold mL_isStep_b273 at hf
  refine lv_icmp_eq (tgt := 278) hx hb (dc tbL_isStep_3_k 30 rfl) rfl (fun c55 => ?_) (fun c55 => ?_)
  · have hf := ite_t c55 hf
    obtain ⟨x8_278, e56, hf⟩ := bnd_s hf
    refine lv_iinc (v := x8_278) (lv' := [(8, .int x8_278), (0, .ref (ad k0)), (1, .ref (ad k1)), (2, .int x2), (3, .int x3), (7, .int x7)]) hx hb (dc tbL_isStep_3_k 33 rfl) hl (k := 5) rfl (ii_e e56 ic_1) (by decide) rfl (fun ls hl => ?_)
    refine lv_goto (tgt := 160) hx hb (dc tbL_isStep_3_k 34 rfl) rfl ?_
    exact hih160 x2 x3 x7 x8_278 M hf _ _ _ hI (lv_sub hl [1, 2, 3, 4, 5, 0] rfl)
  · have hf := ite_f c55 hf
    refine lv_iconst (v := 0) hx hb (dc tbL_isStep_3_k 31 rfl) ic_0 ?_
    cases hf
    exact g_zret hx hb hr hlk hI rfl (dc tbL_isStep_3_k 32 rfl)
def mL_isStep_b250 (k0 : Nat) (b0 : Nat) (k1 : Nat) (ih160 : Int32 → Int32 → Int32 → Int32 → Mem → Option (Mem × (Int32 ⊕ Nat))) (x2 : Int32) (x3 : Int32) (x7 : Int32) (x8 : Int32) (x10 : Int32) (x11 : Int32) (y0 : Int32) (y1 : Int32) (M : Mem) : Option (Mem × (Int32 ⊕ Nat)) := ite2 (y0 = y1) (calx (mX6_corner k1 x2 x3 x8 (1 : Int32) M) (fun M53 r52 => ite2 (x11 = 0) (mL_isStep_b273 k0 b0 k1 ih160 x2 x3 x7 x8 r52 x10 M53) (mL_isStep_b273 k0 b0 k1 ih160 x2 x3 x7 x8 r52 (0 : Int32) M53))) (some (M, Sum.inl (0 : Int32)))
set_option maxHeartbeats 4000000 in
set_option maxRecDepth 100000 in
theorem tL_isStep_nt_b250 {p : Program} {l : Launch} {e : Env} {s : State} {m : MethodId} {args : Array Value} {below : List Frame} {meth : Method} {c : Code} {G : GT} {kd : Nat → Nat × Nat} {ad : Nat → Nat} (C : Cx p s m args meth c cL_isStep 12 (some .boolean) RL G kd ad) {k0 : Nat} {b0 : Nat} {k1 : Nat} (hk0 : kLaw b0 kd k0) (hk1 : kRoot kd k1) {MO : Mem} {vo : Int32} {ih160 : Int32 → Int32 → Int32 → Int32 → Mem → Option (Mem × (Int32 ⊕ Nat))} (hih160 : ∀ (x2 : Int32) (x3 : Int32) (x7 : Int32) (x8 : Int32) (M : Mem), ih160 x2 x3 x7 x8 M = some (MO, Sum.inl vo) → At p l e (rmO 5 0 0) s m args below meth c 0 0 (MQ below (Qg G kd ad s.heap.size MO (some (.int vo))) args s 0 0 (AS kd ad s.heap.size)) G kd ad 12 160 [(0, .ref (ad k0)), (1, .ref (ad k1)), (2, .int x2), (3, .int x3), (7, .int x7), (8, .int x8)] [] M) : ∀ (x2 : Int32) (x3 : Int32) (x7 : Int32) (x8 : Int32) (x10 : Int32) (x11 : Int32) (y0 : Int32) (y1 : Int32) (M : Mem), mL_isStep_b250 k0 b0 k1 ih160 x2 x3 x7 x8 x10 x11 y0 y1 M = some (MO, Sum.inl vo) → At p l e (rmO 5 0 0) s m args below meth c 0 0 (MQ below (Qg G kd ad s.heap.size MO (some (.int vo))) args s 0 0 (AS kd ad s.heap.size)) G kd ad 12 250 [(0, .ref (ad k0)), (1, .ref (ad k1)), (2, .int x2), (3, .int x3), (7, .int x7), (8, .int x8), (10, .int x10), (11, .int x11)] [.int y1, .int y0] M := by
  intro x2 x3 x7 x8 x10 x11 y0 y1 M hf H locs ls hI hl
  obtain ⟨hx, hb, hml, hr, hown, hts, hlk, hK, hap, hsx⟩ := id C
  unfold mL_isStep_b250 at hf
  refine lv_icmp_ne (tgt := 276) hx hb (dc tbL_isStep_3_k 18 rfl) rfl (fun c50 => ?_) (fun c50 => ?_)
  · have hf := ite_f c50 hf
    refine lv_iconst (v := 0) hx hb (dc tbL_isStep_3_k 31 rfl) ic_0 ?_
    cases hf
    exact g_zret hx hb hr hlk hI rfl (dc tbL_isStep_3_k 32 rfl)
  · have hf := ite_t c50 hf
    refine lv_aload_n hx hb (dc tbL_isStep_3_k 19 rfl) rfl (lv_at hl 1 rfl) ?_
    refine lv_iload_n hx hb (dc tbL_isStep_3_k 20 rfl) rfl (lv_at hl 2 rfl) ?_
    refine lv_iload_n hx hb (dc tbL_isStep_3_k 21 rfl) rfl (lv_at hl 3 rfl) ?_
    refine lv_iload hx hb (dc tbL_isStep_3_k 22 rfl) (lv_at hl 5 rfl) ?_
    refine lv_iconst (v := 1) hx hb (dc tbL_isStep_3_k 23 rfl) ic_1 ?_
    obtain ⟨M53, r52, q51, hf⟩ := calx_n hf
    refine g_callVi hx hb hml hown hts hK hap hsx hI (tX6_corner_nt l hk1 q51 H.size) cv_X6_corner q_t5_27 rfl rfl ⟨Nat.le_of_ble_eq_true rfl, Nat.le_of_ble_eq_true rfl⟩ hk1.1 (by simp) rfl rfl rfl hl.1 rfl (Nat.le_of_ble_eq_true rfl) (dc tbL_isStep_3_k 24 rfl) ⟨Nat.le_of_ble_eq_true rfl, Nat.le_of_ble_eq_true rfl⟩ (fun H locs hI => ?_)
    refine lv_iload hx hb (dc tbL_isStep_3_k 25 rfl) (lv_at hl 7 rfl) ?_
    refine lv_if_eq (tgt := 271) hx hb (dc tbL_isStep_3_k 26 rfl) rfl (fun c54 => ?_) (fun c54 => ?_)
    · have hf := ite_t c54 hf
      refine lv_iload hx hb (dc tbL_isStep_3_k 29 rfl) (lv_at hl 6 rfl) ?_
      exact tL_isStep_nt_b273 C hk0 hk1 hih160 x2 x3 x7 x8 r52 x10 M53 hf _ _ _ hI (lv_sub hl [0, 1, 2, 3, 4, 5] rfl)
    · have hf := ite_f c54 hf
      refine lv_iconst (v := 0) hx hb (dc tbL_isStep_3_k 27 rfl) ic_0 ?_
      refine lv_goto (tgt := 273) hx hb (dc tbL_isStep_3_k 28 rfl) rfl ?_
      exact tL_isStep_nt_b273 C hk0 hk1 hih160 x2 x3 x7 x8 r52 (0 : Int32) M53 hf _ _ _ hI (lv_sub hl [0, 1, 2, 3, 4, 5] rfl)
def mL_isStep_b227 (k0 : Nat) (b0 : Nat) (k1 : Nat) (ih160 : Int32 → Int32 → Int32 → Int32 → Mem → Option (Mem × (Int32 ⊕ Nat))) (x2 : Int32) (x3 : Int32) (x7 : Int32) (x8 : Int32) (x10 : Int32) (y0 : Int32) (M : Mem) : Option (Mem × (Int32 ⊕ Nat)) := calx (mX6_corner k1 x2 x3 x8 (0 : Int32) M) (fun M48 r47 => ite2 (y0 = 0) (mL_isStep_b250 k0 b0 k1 ih160 x2 x3 x7 x8 x10 y0 r47 (0 : Int32) M48) (mL_isStep_b250 k0 b0 k1 ih160 x2 x3 x7 x8 x10 y0 r47 (-x10) M48))
set_option maxHeartbeats 4000000 in
set_option maxRecDepth 100000 in
theorem tL_isStep_nt_b227 {p : Program} {l : Launch} {e : Env} {s : State} {m : MethodId} {args : Array Value} {below : List Frame} {meth : Method} {c : Code} {G : GT} {kd : Nat → Nat × Nat} {ad : Nat → Nat} (C : Cx p s m args meth c cL_isStep 12 (some .boolean) RL G kd ad) {k0 : Nat} {b0 : Nat} {k1 : Nat} (hk0 : kLaw b0 kd k0) (hk1 : kRoot kd k1) {MO : Mem} {vo : Int32} {ih160 : Int32 → Int32 → Int32 → Int32 → Mem → Option (Mem × (Int32 ⊕ Nat))} (hih160 : ∀ (x2 : Int32) (x3 : Int32) (x7 : Int32) (x8 : Int32) (M : Mem), ih160 x2 x3 x7 x8 M = some (MO, Sum.inl vo) → At p l e (rmO 5 0 0) s m args below meth c 0 0 (MQ below (Qg G kd ad s.heap.size MO (some (.int vo))) args s 0 0 (AS kd ad s.heap.size)) G kd ad 12 160 [(0, .ref (ad k0)), (1, .ref (ad k1)), (2, .int x2), (3, .int x3), (7, .int x7), (8, .int x8)] [] M) : ∀ (x2 : Int32) (x3 : Int32) (x7 : Int32) (x8 : Int32) (x10 : Int32) (y0 : Int32) (M : Mem), mL_isStep_b227 k0 b0 k1 ih160 x2 x3 x7 x8 x10 y0 M = some (MO, Sum.inl vo) → At p l e (rmO 5 0 0) s m args below meth c 0 0 (MQ below (Qg G kd ad s.heap.size MO (some (.int vo))) args s 0 0 (AS kd ad s.heap.size)) G kd ad 12 227 [(0, .ref (ad k0)), (1, .ref (ad k1)), (2, .int x2), (3, .int x3), (7, .int x7), (8, .int x8), (10, .int x10)] [.int y0] M := by
  intro x2 x3 x7 x8 x10 y0 M hf H locs ls hI hl
  obtain ⟨hx, hb, hml, hr, hown, hts, hlk, hK, hap, hsx⟩ := id C
  unfold mL_isStep_b227 at hf
  refine lv_istore (lv' := [(11, .int y0), (0, .ref (ad k0)), (1, .ref (ad k1)), (2, .int x2), (3, .int x3), (7, .int x7), (8, .int x8), (10, .int x10)]) hx hb (dc tbL_isStep_3_k 5 rfl) hl (by decide) rfl (fun ls hl => ?_)
  refine lv_aload_n hx hb (dc tbL_isStep_3_k 6 rfl) rfl (lv_at hl 2 rfl) ?_
  refine lv_iload_n hx hb (dc tbL_isStep_3_k 7 rfl) rfl (lv_at hl 3 rfl) ?_
  refine lv_iload_n hx hb (dc tbL_isStep_3_k 8 rfl) rfl (lv_at hl 4 rfl) ?_
  refine lv_iload hx hb (dc tbL_isStep_3_k 9 rfl) (lv_at hl 6 rfl) ?_
  refine lv_iconst (v := 0) hx hb (dc tbL_isStep_3_k 10 rfl) ic_0 ?_
  obtain ⟨M48, r47, q46, hf⟩ := calx_n hf
  refine g_callVi hx hb hml hown hts hK hap hsx hI (tX6_corner_nt l hk1 q46 H.size) cv_X6_corner q_t5_27 rfl rfl ⟨Nat.le_of_ble_eq_true rfl, Nat.le_of_ble_eq_true rfl⟩ hk1.1 (by simp) rfl rfl rfl hl.1 rfl (Nat.le_of_ble_eq_true rfl) (dc tbL_isStep_3_k 11 rfl) ⟨Nat.le_of_ble_eq_true rfl, Nat.le_of_ble_eq_true rfl⟩ (fun H locs hI => ?_)
  refine lv_iload hx hb (dc tbL_isStep_3_k 12 rfl) (lv_at hl 0 rfl) ?_
  refine lv_if_eq (tgt := 249) hx hb (dc tbL_isStep_3_k 13 rfl) rfl (fun c49 => ?_) (fun c49 => ?_)
  · have hf := ite_t c49 hf
    refine lv_iconst (v := 0) hx hb (dc tbL_isStep_3_k 17 rfl) ic_0 ?_
    exact tL_isStep_nt_b250 C hk0 hk1 hih160 x2 x3 x7 x8 x10 y0 r47 (0 : Int32) M48 hf _ _ _ hI (lv_sub hl [1, 2, 3, 4, 5, 6, 7, 0] rfl)
  · have hf := ite_f c49 hf
    refine lv_iload hx hb (dc tbL_isStep_3_k 14 rfl) (lv_at hl 7 rfl) ?_
    refine lv_ineg hx hb (dc tbL_isStep_3_k 15 rfl) ?_
    refine lv_goto (tgt := 250) hx hb (dc tbL_isStep_3_k 16 rfl) rfl ?_
    exact tL_isStep_nt_b250 C hk0 hk1 hih160 x2 x3 x7 x8 x10 y0 r47 (-x10) M48 hf _ _ _ hI (lv_sub hl [1, 2, 3, 4, 5, 6, 7, 0] rfl)
def mL_isStep_b219 (k0 : Nat) (b0 : Nat) (k1 : Nat) (ih160 : Int32 → Int32 → Int32 → Int32 → Mem → Option (Mem × (Int32 ⊕ Nat))) (x2 : Int32) (x3 : Int32) (x7 : Int32) (x8 : Int32) (x10 : Int32) (y0 : Int32) (y1 : Int32) (M : Mem) : Option (Mem × (Int32 ⊕ Nat)) := ite2 (y0 = y1) (mL_isStep_b227 k0 b0 k1 ih160 x2 x3 x7 x8 x10 (1 : Int32) M) (mL_isStep_b227 k0 b0 k1 ih160 x2 x3 x7 x8 x10 (0 : Int32) M)
set_option maxHeartbeats 4000000 in
set_option maxRecDepth 100000 in
theorem tL_isStep_nt_b219 {p : Program} {l : Launch} {e : Env} {s : State} {m : MethodId} {args : Array Value} {below : List Frame} {meth : Method} {c : Code} {G : GT} {kd : Nat → Nat × Nat} {ad : Nat → Nat} (C : Cx p s m args meth c cL_isStep 12 (some .boolean) RL G kd ad) {k0 : Nat} {b0 : Nat} {k1 : Nat} (hk0 : kLaw b0 kd k0) (hk1 : kRoot kd k1) {MO : Mem} {vo : Int32} {ih160 : Int32 → Int32 → Int32 → Int32 → Mem → Option (Mem × (Int32 ⊕ Nat))} (hih160 : ∀ (x2 : Int32) (x3 : Int32) (x7 : Int32) (x8 : Int32) (M : Mem), ih160 x2 x3 x7 x8 M = some (MO, Sum.inl vo) → At p l e (rmO 5 0 0) s m args below meth c 0 0 (MQ below (Qg G kd ad s.heap.size MO (some (.int vo))) args s 0 0 (AS kd ad s.heap.size)) G kd ad 12 160 [(0, .ref (ad k0)), (1, .ref (ad k1)), (2, .int x2), (3, .int x3), (7, .int x7), (8, .int x8)] [] M) : ∀ (x2 : Int32) (x3 : Int32) (x7 : Int32) (x8 : Int32) (x10 : Int32) (y0 : Int32) (y1 : Int32) (M : Mem), mL_isStep_b219 k0 b0 k1 ih160 x2 x3 x7 x8 x10 y0 y1 M = some (MO, Sum.inl vo) → At p l e (rmO 5 0 0) s m args below meth c 0 0 (MQ below (Qg G kd ad s.heap.size MO (some (.int vo))) args s 0 0 (AS kd ad s.heap.size)) G kd ad 12 219 [(0, .ref (ad k0)), (1, .ref (ad k1)), (2, .int x2), (3, .int x3), (7, .int x7), (8, .int x8), (10, .int x10)] [.int y1, .int y0] M := by
  intro x2 x3 x7 x8 x10 y0 y1 M hf H locs ls hI hl
  obtain ⟨hx, hb, hml, hr, hown, hts, hlk, hK, hap, hsx⟩ := id C
  unfold mL_isStep_b219 at hf
  refine lv_icmp_ne (tgt := 226) hx hb (dc tbL_isStep_3_k 1 rfl) rfl (fun c45 => ?_) (fun c45 => ?_)
  · have hf := ite_f c45 hf
    refine lv_iconst (v := 0) hx hb (dc tbL_isStep_3_k 4 rfl) ic_0 ?_
    exact tL_isStep_nt_b227 C hk0 hk1 hih160 x2 x3 x7 x8 x10 (0 : Int32) M hf _ _ _ hI (lv_sub hl [0, 1, 2, 3, 4, 5, 6] rfl)
  · have hf := ite_t c45 hf
    refine lv_iconst (v := 1) hx hb (dc tbL_isStep_3_k 2 rfl) ic_1 ?_
    refine lv_goto (tgt := 227) hx hb (dc tbL_isStep_3_k 3 rfl) rfl ?_
    exact tL_isStep_nt_b227 C hk0 hk1 hih160 x2 x3 x7 x8 x10 (1 : Int32) M hf _ _ _ hI (lv_sub hl [0, 1, 2, 3, 4, 5, 6] rfl)
def mL_isStep_b206 (k0 : Nat) (b0 : Nat) (k1 : Nat) (ih160 : Int32 → Int32 → Int32 → Int32 → Mem → Option (Mem × (Int32 ⊕ Nat))) (x2 : Int32) (x3 : Int32) (x7 : Int32) (x8 : Int32) (x9 : Int32) (y0 : Int32) (M : Mem) : Option (Mem × (Int32 ⊕ Nat)) := ite2 (x3 = 0) (mL_isStep_b219 k0 b0 k1 ih160 x2 x3 x7 x8 y0 x9 (1 : Int32) M) (mL_isStep_b219 k0 b0 k1 ih160 x2 x3 x7 x8 y0 x9 (0 : Int32) M)
set_option maxHeartbeats 4000000 in
set_option maxRecDepth 100000 in
theorem tL_isStep_nt_b206 {p : Program} {l : Launch} {e : Env} {s : State} {m : MethodId} {args : Array Value} {below : List Frame} {meth : Method} {c : Code} {G : GT} {kd : Nat → Nat × Nat} {ad : Nat → Nat} (C : Cx p s m args meth c cL_isStep 12 (some .boolean) RL G kd ad) {k0 : Nat} {b0 : Nat} {k1 : Nat} (hk0 : kLaw b0 kd k0) (hk1 : kRoot kd k1) {MO : Mem} {vo : Int32} {ih160 : Int32 → Int32 → Int32 → Int32 → Mem → Option (Mem × (Int32 ⊕ Nat))} (hih160 : ∀ (x2 : Int32) (x3 : Int32) (x7 : Int32) (x8 : Int32) (M : Mem), ih160 x2 x3 x7 x8 M = some (MO, Sum.inl vo) → At p l e (rmO 5 0 0) s m args below meth c 0 0 (MQ below (Qg G kd ad s.heap.size MO (some (.int vo))) args s 0 0 (AS kd ad s.heap.size)) G kd ad 12 160 [(0, .ref (ad k0)), (1, .ref (ad k1)), (2, .int x2), (3, .int x3), (7, .int x7), (8, .int x8)] [] M) : ∀ (x2 : Int32) (x3 : Int32) (x7 : Int32) (x8 : Int32) (x9 : Int32) (y0 : Int32) (M : Mem), mL_isStep_b206 k0 b0 k1 ih160 x2 x3 x7 x8 x9 y0 M = some (MO, Sum.inl vo) → At p l e (rmO 5 0 0) s m args below meth c 0 0 (MQ below (Qg G kd ad s.heap.size MO (some (.int vo))) args s 0 0 (AS kd ad s.heap.size)) G kd ad 12 206 [(0, .ref (ad k0)), (1, .ref (ad k1)), (2, .int x2), (3, .int x3), (7, .int x7), (8, .int x8), (9, .int x9)] [.int y0] M := by
  intro x2 x3 x7 x8 x9 y0 M hf H locs ls hI hl
  obtain ⟨hx, hb, hml, hr, hown, hts, hlk, hK, hap, hsx⟩ := id C
  unfold mL_isStep_b206 at hf
  refine lv_istore (lv' := [(10, .int y0), (0, .ref (ad k0)), (1, .ref (ad k1)), (2, .int x2), (3, .int x3), (7, .int x7), (8, .int x8), (9, .int x9)]) hx hb (dc tbL_isStep_2_k 34 rfl) hl (by decide) rfl (fun ls hl => ?_)
  refine lv_iload hx hb (dc tbL_isStep_2_k 35 rfl) (lv_at hl 7 rfl) ?_
  refine lv_iload_n hx hb (dc tbL_isStep_2_k 36 rfl) rfl (lv_at hl 4 rfl) ?_
  refine lv_if_ne (tgt := 218) hx hb (dc tbL_isStep_2_k 37 rfl) rfl (fun c44 => ?_) (fun c44 => ?_)
  · have hf := ite_f c44 hf
    refine lv_iconst (v := 0) hx hb (dc tbL_isStep_3_k 0 rfl) ic_0 ?_
    exact tL_isStep_nt_b219 C hk0 hk1 hih160 x2 x3 x7 x8 y0 x9 (0 : Int32) M hf _ _ _ hI (lv_sub hl [1, 2, 3, 4, 5, 6, 0] rfl)
  · have hf := ite_t c44 hf
    refine lv_iconst (v := 1) hx hb (dc tbL_isStep_2_k 38 rfl) ic_1 ?_
    refine lv_goto (tgt := 219) hx hb (dc tbL_isStep_2_k 39 rfl) rfl ?_
    exact tL_isStep_nt_b219 C hk0 hk1 hih160 x2 x3 x7 x8 y0 x9 (1 : Int32) M hf _ _ _ hI (lv_sub hl [1, 2, 3, 4, 5, 6, 0] rfl)
def mL_isStep_b180 (k0 : Nat) (b0 : Nat) (k1 : Nat) (ih160 : Int32 → Int32 → Int32 → Int32 → Mem → Option (Mem × (Int32 ⊕ Nat))) (x2 : Int32) (x3 : Int32) (x7 : Int32) (x8 : Int32) (y0 : Int32) (M : Mem) : Option (Mem × (Int32 ⊕ Nat)) := ite2 (y0 = 0) (cap (mL_sum k0 b0 (x2 + (1 : Int32)) x8 M) (fun r42 => mL_isStep_b206 k0 b0 k1 ih160 x2 x3 x7 x8 y0 r42 M)) (cap (mL_sum k0 b0 x8 x2 M) (fun r58 => mL_isStep_b206 k0 b0 k1 ih160 x2 x3 x7 x8 y0 r58 M))
set_option maxHeartbeats 4000000 in
set_option maxRecDepth 100000 in
theorem tL_isStep_nt_b180 {p : Program} {l : Launch} {e : Env} {s : State} {m : MethodId} {args : Array Value} {below : List Frame} {meth : Method} {c : Code} {G : GT} {kd : Nat → Nat × Nat} {ad : Nat → Nat} (C : Cx p s m args meth c cL_isStep 12 (some .boolean) RL G kd ad) {k0 : Nat} {b0 : Nat} {k1 : Nat} (hk0 : kLaw b0 kd k0) (hk1 : kRoot kd k1) {MO : Mem} {vo : Int32} {ih160 : Int32 → Int32 → Int32 → Int32 → Mem → Option (Mem × (Int32 ⊕ Nat))} (hih160 : ∀ (x2 : Int32) (x3 : Int32) (x7 : Int32) (x8 : Int32) (M : Mem), ih160 x2 x3 x7 x8 M = some (MO, Sum.inl vo) → At p l e (rmO 5 0 0) s m args below meth c 0 0 (MQ below (Qg G kd ad s.heap.size MO (some (.int vo))) args s 0 0 (AS kd ad s.heap.size)) G kd ad 12 160 [(0, .ref (ad k0)), (1, .ref (ad k1)), (2, .int x2), (3, .int x3), (7, .int x7), (8, .int x8)] [] M) : ∀ (x2 : Int32) (x3 : Int32) (x7 : Int32) (x8 : Int32) (y0 : Int32) (M : Mem), mL_isStep_b180 k0 b0 k1 ih160 x2 x3 x7 x8 y0 M = some (MO, Sum.inl vo) → At p l e (rmO 5 0 0) s m args below meth c 0 0 (MQ below (Qg G kd ad s.heap.size MO (some (.int vo))) args s 0 0 (AS kd ad s.heap.size)) G kd ad 12 180 [(0, .ref (ad k0)), (1, .ref (ad k1)), (2, .int x2), (3, .int x3), (7, .int x7), (8, .int x8)] [.int y0] M := by
  intro x2 x3 x7 x8 y0 M hf H locs ls hI hl
  obtain ⟨hx, hb, hml, hr, hown, hts, hlk, hK, hap, hsx⟩ := id C
  unfold mL_isStep_b180 at hf
  refine lv_istore (lv' := [(9, .int y0), (0, .ref (ad k0)), (1, .ref (ad k1)), (2, .int x2), (3, .int x3), (7, .int x7), (8, .int x8)]) hx hb (dc tbL_isStep_2_k 20 rfl) hl (by decide) rfl (fun ls hl => ?_)
  refine lv_iload hx hb (dc tbL_isStep_2_k 21 rfl) (lv_at hl 0 rfl) ?_
  refine lv_if_eq (tgt := 197) hx hb (dc tbL_isStep_2_k 22 rfl) rfl (fun c40 => ?_) (fun c40 => ?_)
  · have hf := ite_t c40 hf
    refine lv_aload_n hx hb (dc tbL_isStep_2_k 28 rfl) rfl (lv_at hl 1 rfl) ?_
    refine lv_iload_n hx hb (dc tbL_isStep_2_k 29 rfl) rfl (lv_at hl 3 rfl) ?_
    refine lv_iconst (v := 1) hx hb (dc tbL_isStep_2_k 30 rfl) ic_1 ?_
    refine lv_iadd hx hb (dc tbL_isStep_2_k 31 rfl) ?_
    refine lv_iload hx hb (dc tbL_isStep_2_k 32 rfl) (lv_at hl 6 rfl) ?_
    obtain ⟨r42, q41, hf⟩ := cap_s hf
    refine g_callVi hx hb hml hown hts hK hap hsx hI (tL_sum l hk0 q41 H.size) cv_L_sum q_t4_164 rfl rfl ⟨Nat.le_of_ble_eq_true rfl, Nat.le_of_ble_eq_true rfl⟩ hk0.1 (by simp) rfl rfl rfl hl.1 rfl (Nat.le_of_ble_eq_true rfl) (dc tbL_isStep_2_k 33 rfl) ⟨Nat.le_of_ble_eq_true rfl, Nat.le_of_ble_eq_true rfl⟩ (fun H locs hI => ?_)
    exact tL_isStep_nt_b206 C hk0 hk1 hih160 x2 x3 x7 x8 y0 r42 M hf _ _ _ hI (lv_sub hl [1, 2, 3, 4, 5, 6, 0] rfl)
  · have hf := ite_f c40 hf
    refine lv_aload_n hx hb (dc tbL_isStep_2_k 23 rfl) rfl (lv_at hl 1 rfl) ?_
    refine lv_iload hx hb (dc tbL_isStep_2_k 24 rfl) (lv_at hl 6 rfl) ?_
    refine lv_iload_n hx hb (dc tbL_isStep_2_k 25 rfl) rfl (lv_at hl 3 rfl) ?_
    obtain ⟨r58, q57, hf⟩ := cap_s hf
    refine g_callVi hx hb hml hown hts hK hap hsx hI (tL_sum l hk0 q57 H.size) cv_L_sum q_t4_164 rfl rfl ⟨Nat.le_of_ble_eq_true rfl, Nat.le_of_ble_eq_true rfl⟩ hk0.1 (by simp) rfl rfl rfl hl.1 rfl (Nat.le_of_ble_eq_true rfl) (dc tbL_isStep_2_k 26 rfl) ⟨Nat.le_of_ble_eq_true rfl, Nat.le_of_ble_eq_true rfl⟩ (fun H locs hI => ?_)
    refine lv_goto (tgt := 206) hx hb (dc tbL_isStep_2_k 27 rfl) rfl ?_
    exact tL_isStep_nt_b206 C hk0 hk1 hih160 x2 x3 x7 x8 y0 r58 M hf _ _ _ hI (lv_sub hl [1, 2, 3, 4, 5, 6, 0] rfl)
def mL_isStep_b160 (k0 : Nat) (b0 : Nat) (k1 : Nat) (ih160 : Int32 → Int32 → Int32 → Int32 → Mem → Option (Mem × (Int32 ⊕ Nat))) (x2 : Int32) (x3 : Int32) (x7 : Int32) (x8 : Int32) (M : Mem) : Option (Mem × (Int32 ⊕ Nat)) := ite2 ((rd M k0 2) < x8) (cal (mX6_possible k1 M) (fun M36 r35 => ite2 (x7 = 0) (mL_isStep_b306 k0 b0 k1 ((r35 >>> ((((2 : Int32) * x2) + x3) &&& 31)) &&& (1 : Int32)) (1 : Int32) M36) (mL_isStep_b306 k0 b0 k1 ((r35 >>> ((((2 : Int32) * x2) + x3) &&& 31)) &&& (1 : Int32)) (0 : Int32) M36))) (ite2 (x2 < x8) (mL_isStep_b180 k0 b0 k1 ih160 x2 x3 x7 x8 (0 : Int32) M) (mL_isStep_b180 k0 b0 k1 ih160 x2 x3 x7 x8 (1 : Int32) M))
set_option maxHeartbeats 4000000 in
set_option maxRecDepth 100000 in
theorem tL_isStep_nt_b160 {p : Program} {l : Launch} {e : Env} {s : State} {m : MethodId} {args : Array Value} {below : List Frame} {meth : Method} {c : Code} {G : GT} {kd : Nat → Nat × Nat} {ad : Nat → Nat} (C : Cx p s m args meth c cL_isStep 12 (some .boolean) RL G kd ad) {k0 : Nat} {b0 : Nat} {k1 : Nat} (hk0 : kLaw b0 kd k0) (hk1 : kRoot kd k1) {MO : Mem} {vo : Int32} {ih160 : Int32 → Int32 → Int32 → Int32 → Mem → Option (Mem × (Int32 ⊕ Nat))} (hih160 : ∀ (x2 : Int32) (x3 : Int32) (x7 : Int32) (x8 : Int32) (M : Mem), ih160 x2 x3 x7 x8 M = some (MO, Sum.inl vo) → At p l e (rmO 5 0 0) s m args below meth c 0 0 (MQ below (Qg G kd ad s.heap.size MO (some (.int vo))) args s 0 0 (AS kd ad s.heap.size)) G kd ad 12 160 [(0, .ref (ad k0)), (1, .ref (ad k1)), (2, .int x2), (3, .int x3), (7, .int x7), (8, .int x8)] [] M) : ∀ (x2 : Int32) (x3 : Int32) (x7 : Int32) (x8 : Int32) (M : Mem), mL_isStep_b160 k0 b0 k1 ih160 x2 x3 x7 x8 M = some (MO, Sum.inl vo) → At p l e (rmO 5 0 0) s m args below meth c 0 0 (MQ below (Qg G kd ad s.heap.size MO (some (.int vo))) args s 0 0 (AS kd ad s.heap.size)) G kd ad 12 160 [(0, .ref (ad k0)), (1, .ref (ad k1)), (2, .int x2), (3, .int x3), (7, .int x7), (8, .int x8)] [] M := by
  intro x2 x3 x7 x8 M hf H locs ls hI hl
  obtain ⟨hx, hb, hml, hr, hown, hts, hlk, hK, hap, hsx⟩ := id C
  unfold mL_isStep_b160 at hf
  refine lv_iload hx hb (dc tbL_isStep_2_k 10 rfl) (lv_at hl 5 rfl) ?_
  refine lv_aload_n hx hb (dc tbL_isStep_2_k 11 rfl) rfl (lv_at hl 0 rfl) ?_
  refine ggL_2 hx hb hts hown hK hI hk0.1 q_t2_193 (dc tbL_isStep_2_k 12 rfl) ?_
  refine lv_icmp_gt (tgt := 284) hx hb (dc tbL_isStep_2_k 13 rfl) rfl (fun c33 => ?_) (fun c33 => ?_)
  · have hf := ite_t c33 hf
    refine lv_aload_n hx hb (dc tbL_isStep_3_k 35 rfl) rfl (lv_at hl 1 rfl) ?_
    obtain ⟨M36, r35, q34, hf⟩ := cal_s hf
    refine g_callVi hx hb hml hown hts hK hap hsx hI (tX6_possible l hk1 q34 H.size) cv_X6_possible q_t5_36 rfl rfl ⟨Nat.le_of_ble_eq_true rfl, Nat.le_of_ble_eq_true rfl⟩ hk1.1 (by simp) rfl rfl rfl hl.1 rfl (Nat.le_of_ble_eq_true rfl) (dc tbL_isStep_3_k 36 rfl) ⟨Nat.le_of_ble_eq_true rfl, Nat.le_of_ble_eq_true rfl⟩ (fun H locs hI => ?_)
    refine lv_iconst (v := 2) hx hb (dc tbL_isStep_3_k 37 rfl) ic_2 ?_
    refine lv_iload_n hx hb (dc tbL_isStep_3_k 38 rfl) rfl (lv_at hl 2 rfl) ?_
    refine lv_imul hx hb (dc tbL_isStep_3_k 39 rfl) ?_
    refine lv_iload_n hx hb (dc tbL_isStep_4_k 0 rfl) rfl (lv_at hl 3 rfl) ?_
    refine lv_iadd hx hb (dc tbL_isStep_4_k 1 rfl) ?_
    refine lv_ishr hx hb (dc tbL_isStep_4_k 2 rfl) ?_
    refine lv_iconst (v := 1) hx hb (dc tbL_isStep_4_k 3 rfl) ic_1 ?_
    refine lv_iand hx hb (dc tbL_isStep_4_k 4 rfl) ?_
    refine lv_iload hx hb (dc tbL_isStep_4_k 5 rfl) (lv_at hl 4 rfl) ?_
    refine lv_if_ne (tgt := 305) hx hb (dc tbL_isStep_4_k 6 rfl) rfl (fun c37 => ?_) (fun c37 => ?_)
    · have hf := ite_f c37 hf
      refine lv_iconst (v := 0) hx hb (dc tbL_isStep_4_k 9 rfl) ic_0 ?_
      exact tL_isStep_nt_b306 C hk0 hk1 ((r35 >>> ((((2 : Int32) * x2) + x3) &&& 31)) &&& (1 : Int32)) (0 : Int32) M36 hf _ _ _ hI (lv_sub hl [] rfl)
    · have hf := ite_t c37 hf
      refine lv_iconst (v := 1) hx hb (dc tbL_isStep_4_k 7 rfl) ic_1 ?_
      refine lv_goto (tgt := 306) hx hb (dc tbL_isStep_4_k 8 rfl) rfl ?_
      exact tL_isStep_nt_b306 C hk0 hk1 ((r35 >>> ((((2 : Int32) * x2) + x3) &&& 31)) &&& (1 : Int32)) (1 : Int32) M36 hf _ _ _ hI (lv_sub hl [] rfl)
  · have hf := ite_f c33 hf
    refine lv_iload hx hb (dc tbL_isStep_2_k 14 rfl) (lv_at hl 5 rfl) ?_
    refine lv_iload_n hx hb (dc tbL_isStep_2_k 15 rfl) rfl (lv_at hl 2 rfl) ?_
    refine lv_icmp_gt (tgt := 179) hx hb (dc tbL_isStep_2_k 16 rfl) rfl (fun c39 => ?_) (fun c39 => ?_)
    · have hf := ite_t c39 hf
      refine lv_iconst (v := 0) hx hb (dc tbL_isStep_2_k 19 rfl) ic_0 ?_
      exact tL_isStep_nt_b180 C hk0 hk1 hih160 x2 x3 x7 x8 (0 : Int32) M hf _ _ _ hI (lv_sub hl [0, 1, 2, 3, 4, 5] rfl)
    · have hf := ite_f c39 hf
      refine lv_iconst (v := 1) hx hb (dc tbL_isStep_2_k 17 rfl) ic_1 ?_
      refine lv_goto (tgt := 180) hx hb (dc tbL_isStep_2_k 18 rfl) rfl ?_
      exact tL_isStep_nt_b180 C hk0 hk1 hih160 x2 x3 x7 x8 (1 : Int32) M hf _ _ _ hI (lv_sub hl [0, 1, 2, 3, 4, 5] rfl)
def mL_isStep_l160 (k0 : Nat) (b0 : Nat) (k1 : Nat) : Nat → Int32 → Int32 → Int32 → Int32 → Mem → Option (Mem × (Int32 ⊕ Nat))
  | 0 => fun _ _ _ _ _ => none
  | n + 1 => mL_isStep_b160 k0 b0 k1 (mL_isStep_l160 k0 b0 k1 n)
theorem tL_isStep_nt_l160 {p : Program} {l : Launch} {e : Env} {s : State} {m : MethodId} {args : Array Value} {below : List Frame} {meth : Method} {c : Code} {G : GT} {kd : Nat → Nat × Nat} {ad : Nat → Nat} (C : Cx p s m args meth c cL_isStep 12 (some .boolean) RL G kd ad) {k0 : Nat} {b0 : Nat} {k1 : Nat} (hk0 : kLaw b0 kd k0) (hk1 : kRoot kd k1) {MO : Mem} {vo : Int32}   : ∀ (fuel : Nat) (x2 : Int32) (x3 : Int32) (x7 : Int32) (x8 : Int32) (M : Mem), mL_isStep_l160 k0 b0 k1 fuel x2 x3 x7 x8 M = some (MO, Sum.inl vo) → At p l e (rmO 5 0 0) s m args below meth c 0 0 (MQ below (Qg G kd ad s.heap.size MO (some (.int vo))) args s 0 0 (AS kd ad s.heap.size)) G kd ad 12 160 [(0, .ref (ad k0)), (1, .ref (ad k1)), (2, .int x2), (3, .int x3), (7, .int x7), (8, .int x8)] [] M := by
  intro fuel
  induction fuel with
  | zero => intro x2 x3 x7 x8 M hf; cases hf
  | succ n IH => exact tL_isStep_nt_b160 C hk0 hk1 IH
def mL_isStep_b102 (k0 : Nat) (b0 : Nat) (k1 : Nat) (x2 : Int32) (x3 : Int32) (x4 : Int32) (x5 : Int32) (y0 : Int32) (M : Mem) : Option (Mem × (Int32 ⊕ Nat)) := calx (mX6_gauge k1 x2 x3 M) (fun M15 r14 => ite2 (r14 = x4) (calx (mX6_top k1 x2 x3 M15) (fun M19 r18 => ite2 (r18 = x5) (calx (mX6_hitting k1 x2 x3 M19) (fun M23 r22 => ite2 (r22 = 0) (calx (mX6_reason k1 x2 x3 M23) (fun M27 r26 => ite2 (r26 = y0) (calx (mX6_costOf k1 x2 x3 M27) (fun M31 r30 => ite2 (r30 = 0) (mL_isStep_l160 k0 b0 k1 5000 x2 x3 y0 (0 : Int32) M31) (some (M31, Sum.inl (0 : Int32))))) (some (M27, Sum.inl (0 : Int32))))) (some (M23, Sum.inl (0 : Int32))))) (some (M19, Sum.inl (0 : Int32))))) (some (M15, Sum.inl (0 : Int32))))
set_option maxHeartbeats 4000000 in
set_option maxRecDepth 100000 in
theorem tL_isStep_nt_b102 {p : Program} {l : Launch} {e : Env} {s : State} {m : MethodId} {args : Array Value} {below : List Frame} {meth : Method} {c : Code} {G : GT} {kd : Nat → Nat × Nat} {ad : Nat → Nat} (C : Cx p s m args meth c cL_isStep 12 (some .boolean) RL G kd ad) {k0 : Nat} {b0 : Nat} {k1 : Nat} (hk0 : kLaw b0 kd k0) (hk1 : kRoot kd k1) {MO : Mem} {vo : Int32}   : ∀ (x2 : Int32) (x3 : Int32) (x4 : Int32) (x5 : Int32) (y0 : Int32) (M : Mem), mL_isStep_b102 k0 b0 k1 x2 x3 x4 x5 y0 M = some (MO, Sum.inl vo) → At p l e (rmO 5 0 0) s m args below meth c 0 0 (MQ below (Qg G kd ad s.heap.size MO (some (.int vo))) args s 0 0 (AS kd ad s.heap.size)) G kd ad 12 102 [(0, .ref (ad k0)), (1, .ref (ad k1)), (2, .int x2), (3, .int x3), (4, .int x4), (5, .int x5)] [.int y0] M := by
  intro x2 x3 x4 x5 y0 M hf H locs ls hI hl
  obtain ⟨hx, hb, hml, hr, hown, hts, hlk, hK, hap, hsx⟩ := id C
  unfold mL_isStep_b102 at hf
  refine lv_istore (lv' := [(7, .int y0), (0, .ref (ad k0)), (1, .ref (ad k1)), (2, .int x2), (3, .int x3), (4, .int x4), (5, .int x5)]) hx hb (dc tbL_isStep_1_k 17 rfl) hl (by decide) rfl (fun ls hl => ?_)
  refine lv_aload_n hx hb (dc tbL_isStep_1_k 18 rfl) rfl (lv_at hl 2 rfl) ?_
  refine lv_iload_n hx hb (dc tbL_isStep_1_k 19 rfl) rfl (lv_at hl 3 rfl) ?_
  refine lv_iload_n hx hb (dc tbL_isStep_1_k 20 rfl) rfl (lv_at hl 4 rfl) ?_
  obtain ⟨M15, r14, q13, hf⟩ := calx_n hf
  refine g_callVi hx hb hml hown hts hK hap hsx hI (tX6_gauge_nt l hk1 q13 H.size) cv_X6_gauge q_t4_168 rfl rfl ⟨Nat.le_of_ble_eq_true rfl, Nat.le_of_ble_eq_true rfl⟩ hk1.1 (by simp) rfl rfl rfl hl.1 rfl (Nat.le_of_ble_eq_true rfl) (dc tbL_isStep_1_k 21 rfl) ⟨Nat.le_of_ble_eq_true rfl, Nat.le_of_ble_eq_true rfl⟩ (fun H locs hI => ?_)
  refine lv_iload hx hb (dc tbL_isStep_1_k 22 rfl) (lv_at hl 5 rfl) ?_
  refine lv_icmp_ne (tgt := 155) hx hb (dc tbL_isStep_1_k 23 rfl) rfl (fun c16 => ?_) (fun c16 => ?_)
  · have hf := ite_f c16 hf
    refine lv_iconst (v := 0) hx hb (dc tbL_isStep_2_k 6 rfl) ic_0 ?_
    cases hf
    exact g_zret hx hb hr hlk hI rfl (dc tbL_isStep_2_k 7 rfl)
  · have hf := ite_t c16 hf
    refine lv_aload_n hx hb (dc tbL_isStep_1_k 24 rfl) rfl (lv_at hl 2 rfl) ?_
    refine lv_iload_n hx hb (dc tbL_isStep_1_k 25 rfl) rfl (lv_at hl 3 rfl) ?_
    refine lv_iload_n hx hb (dc tbL_isStep_1_k 26 rfl) rfl (lv_at hl 4 rfl) ?_
    obtain ⟨M19, r18, q17, hf⟩ := calx_n hf
    refine g_callVi hx hb hml hown hts hK hap hsx hI (tX6_top_nt l hk1 q17 H.size) cv_X6_top q_t4_203 rfl rfl ⟨Nat.le_of_ble_eq_true rfl, Nat.le_of_ble_eq_true rfl⟩ hk1.1 (by simp) rfl rfl rfl hl.1 rfl (Nat.le_of_ble_eq_true rfl) (dc tbL_isStep_1_k 27 rfl) ⟨Nat.le_of_ble_eq_true rfl, Nat.le_of_ble_eq_true rfl⟩ (fun H locs hI => ?_)
    refine lv_iload hx hb (dc tbL_isStep_1_k 28 rfl) (lv_at hl 6 rfl) ?_
    refine lv_icmp_ne (tgt := 155) hx hb (dc tbL_isStep_1_k 29 rfl) rfl (fun c20 => ?_) (fun c20 => ?_)
    · have hf := ite_f c20 hf
      refine lv_iconst (v := 0) hx hb (dc tbL_isStep_2_k 6 rfl) ic_0 ?_
      cases hf
      exact g_zret hx hb hr hlk hI rfl (dc tbL_isStep_2_k 7 rfl)
    · have hf := ite_t c20 hf
      refine lv_aload_n hx hb (dc tbL_isStep_1_k 30 rfl) rfl (lv_at hl 2 rfl) ?_
      refine lv_iload_n hx hb (dc tbL_isStep_1_k 31 rfl) rfl (lv_at hl 3 rfl) ?_
      refine lv_iload_n hx hb (dc tbL_isStep_1_k 32 rfl) rfl (lv_at hl 4 rfl) ?_
      obtain ⟨M23, r22, q21, hf⟩ := calx_n hf
      refine g_callVi hx hb hml hown hts hK hap hsx hI (tX6_hitting_nt l hk1 q21 H.size) cv_X6_hitting q_t4_211 rfl rfl ⟨Nat.le_of_ble_eq_true rfl, Nat.le_of_ble_eq_true rfl⟩ hk1.1 (by simp) rfl rfl rfl hl.1 rfl (Nat.le_of_ble_eq_true rfl) (dc tbL_isStep_1_k 33 rfl) ⟨Nat.le_of_ble_eq_true rfl, Nat.le_of_ble_eq_true rfl⟩ (fun H locs hI => ?_)
      refine lv_if_ne (tgt := 155) hx hb (dc tbL_isStep_1_k 34 rfl) rfl (fun c24 => ?_) (fun c24 => ?_)
      · have hf := ite_f c24 hf
        refine lv_iconst (v := 0) hx hb (dc tbL_isStep_2_k 6 rfl) ic_0 ?_
        cases hf
        exact g_zret hx hb hr hlk hI rfl (dc tbL_isStep_2_k 7 rfl)
      · have hf := ite_t c24 hf
        refine lv_aload_n hx hb (dc tbL_isStep_1_k 35 rfl) rfl (lv_at hl 2 rfl) ?_
        refine lv_iload_n hx hb (dc tbL_isStep_1_k 36 rfl) rfl (lv_at hl 3 rfl) ?_
        refine lv_iload_n hx hb (dc tbL_isStep_1_k 37 rfl) rfl (lv_at hl 4 rfl) ?_
        obtain ⟨M27, r26, q25, hf⟩ := calx_n hf
        refine g_callVi hx hb hml hown hts hK hap hsx hI (tX6_reason_nt l hk1 q25 H.size) cv_X6_reason q_t4_223 rfl rfl ⟨Nat.le_of_ble_eq_true rfl, Nat.le_of_ble_eq_true rfl⟩ hk1.1 (by simp) rfl rfl rfl hl.1 rfl (Nat.le_of_ble_eq_true rfl) (dc tbL_isStep_1_k 38 rfl) ⟨Nat.le_of_ble_eq_true rfl, Nat.le_of_ble_eq_true rfl⟩ (fun H locs hI => ?_)
        refine lv_iload hx hb (dc tbL_isStep_1_k 39 rfl) (lv_at hl 0 rfl) ?_
        refine lv_icmp_ne (tgt := 155) hx hb (dc tbL_isStep_2_k 0 rfl) rfl (fun c28 => ?_) (fun c28 => ?_)
        · have hf := ite_f c28 hf
          refine lv_iconst (v := 0) hx hb (dc tbL_isStep_2_k 6 rfl) ic_0 ?_
          cases hf
          exact g_zret hx hb hr hlk hI rfl (dc tbL_isStep_2_k 7 rfl)
        · have hf := ite_t c28 hf
          refine lv_aload_n hx hb (dc tbL_isStep_2_k 1 rfl) rfl (lv_at hl 2 rfl) ?_
          refine lv_iload_n hx hb (dc tbL_isStep_2_k 2 rfl) rfl (lv_at hl 3 rfl) ?_
          refine lv_iload_n hx hb (dc tbL_isStep_2_k 3 rfl) rfl (lv_at hl 4 rfl) ?_
          obtain ⟨M31, r30, q29, hf⟩ := calx_n hf
          refine g_callVi hx hb hml hown hts hK hap hsx hI (tX6_costOf_nt l hk1 q29 H.size) cv_X6_costOf q_t5_6 rfl rfl ⟨Nat.le_of_ble_eq_true rfl, Nat.le_of_ble_eq_true rfl⟩ hk1.1 (by simp) rfl rfl rfl hl.1 rfl (Nat.le_of_ble_eq_true rfl) (dc tbL_isStep_2_k 4 rfl) ⟨Nat.le_of_ble_eq_true rfl, Nat.le_of_ble_eq_true rfl⟩ (fun H locs hI => ?_)
          refine lv_if_eq (tgt := 157) hx hb (dc tbL_isStep_2_k 5 rfl) rfl (fun c32 => ?_) (fun c32 => ?_)
          · have hf := ite_t c32 hf
            refine lv_iconst (v := 0) hx hb (dc tbL_isStep_2_k 8 rfl) ic_0 ?_
            refine lv_istore (lv' := [(8, .int (0 : Int32)), (7, .int y0), (0, .ref (ad k0)), (1, .ref (ad k1)), (2, .int x2), (3, .int x3), (4, .int x4), (5, .int x5)]) hx hb (dc tbL_isStep_2_k 9 rfl) hl (by decide) rfl (fun ls hl => ?_)
            exact tL_isStep_nt_l160 C hk0 hk1 5000 x2 x3 y0 (0 : Int32) M31 hf _ _ _ hI (lv_sub hl [2, 3, 4, 5, 1, 0] rfl)
          · have hf := ite_f c32 hf
            refine lv_iconst (v := 0) hx hb (dc tbL_isStep_2_k 6 rfl) ic_0 ?_
            cases hf
            exact g_zret hx hb hr hlk hI rfl (dc tbL_isStep_2_k 7 rfl)
def mL_isStep_b73 (k0 : Nat) (b0 : Nat) (k1 : Nat) (x2 : Int32) (x3 : Int32) (x4 : Int32) (x5 : Int32) (y0 : Int32) (M : Mem) : Option (Mem × (Int32 ⊕ Nat)) := ite2 ((rd M k0 7) ≤ y0) (ite2 (x4 ≤ (rd M k0 8)) (mL_isStep_b102 k0 b0 k1 x2 x3 x4 x5 (0 : Int32) M) (mL_isStep_b102 k0 b0 k1 x2 x3 x4 x5 (3 : Int32) M)) (mL_isStep_b102 k0 b0 k1 x2 x3 x4 x5 (2 : Int32) M)
set_option maxHeartbeats 4000000 in
set_option maxRecDepth 100000 in
theorem tL_isStep_nt_b73 {p : Program} {l : Launch} {e : Env} {s : State} {m : MethodId} {args : Array Value} {below : List Frame} {meth : Method} {c : Code} {G : GT} {kd : Nat → Nat × Nat} {ad : Nat → Nat} (C : Cx p s m args meth c cL_isStep 12 (some .boolean) RL G kd ad) {k0 : Nat} {b0 : Nat} {k1 : Nat} (hk0 : kLaw b0 kd k0) (hk1 : kRoot kd k1) {MO : Mem} {vo : Int32}   : ∀ (x2 : Int32) (x3 : Int32) (x4 : Int32) (x5 : Int32) (y0 : Int32) (M : Mem), mL_isStep_b73 k0 b0 k1 x2 x3 x4 x5 y0 M = some (MO, Sum.inl vo) → At p l e (rmO 5 0 0) s m args below meth c 0 0 (MQ below (Qg G kd ad s.heap.size MO (some (.int vo))) args s 0 0 (AS kd ad s.heap.size)) G kd ad 12 73 [(0, .ref (ad k0)), (1, .ref (ad k1)), (2, .int x2), (3, .int x3), (4, .int x4), (5, .int x5)] [.int y0] M := by
  intro x2 x3 x4 x5 y0 M hf H locs ls hI hl
  obtain ⟨hx, hb, hml, hr, hown, hts, hlk, hK, hap, hsx⟩ := id C
  unfold mL_isStep_b73 at hf
  refine lv_istore (lv' := [(6, .int y0), (0, .ref (ad k0)), (1, .ref (ad k1)), (2, .int x2), (3, .int x3), (4, .int x4), (5, .int x5)]) hx hb (dc tbL_isStep_1_k 3 rfl) hl (by decide) rfl (fun ls hl => ?_)
  refine lv_iload hx hb (dc tbL_isStep_1_k 4 rfl) (lv_at hl 0 rfl) ?_
  refine lv_aload_n hx hb (dc tbL_isStep_1_k 5 rfl) rfl (lv_at hl 1 rfl) ?_
  refine ggL_7 hx hb hts hown hK hI hk0.1 q_t2_198 (dc tbL_isStep_1_k 6 rfl) ?_
  refine lv_icmp_ge (tgt := 88) hx hb (dc tbL_isStep_1_k 7 rfl) rfl (fun c11 => ?_) (fun c11 => ?_)
  · have hf := ite_t c11 hf
    refine lv_iload hx hb (dc tbL_isStep_1_k 10 rfl) (lv_at hl 5 rfl) ?_
    refine lv_aload_n hx hb (dc tbL_isStep_1_k 11 rfl) rfl (lv_at hl 1 rfl) ?_
    refine ggL_8 hx hb hts hown hK hI hk0.1 q_t2_199 (dc tbL_isStep_1_k 12 rfl) ?_
    refine lv_icmp_le (tgt := 101) hx hb (dc tbL_isStep_1_k 13 rfl) rfl (fun c12 => ?_) (fun c12 => ?_)
    · have hf := ite_t c12 hf
      refine lv_iconst (v := 0) hx hb (dc tbL_isStep_1_k 16 rfl) ic_0 ?_
      exact tL_isStep_nt_b102 C hk0 hk1 x2 x3 x4 x5 (0 : Int32) M hf _ _ _ hI (lv_sub hl [1, 2, 3, 4, 5, 6] rfl)
    · have hf := ite_f c12 hf
      refine lv_iconst (v := 3) hx hb (dc tbL_isStep_1_k 14 rfl) ic_3 ?_
      refine lv_goto (tgt := 102) hx hb (dc tbL_isStep_1_k 15 rfl) rfl ?_
      exact tL_isStep_nt_b102 C hk0 hk1 x2 x3 x4 x5 (3 : Int32) M hf _ _ _ hI (lv_sub hl [1, 2, 3, 4, 5, 6] rfl)
  · have hf := ite_f c11 hf
    refine lv_iconst (v := 2) hx hb (dc tbL_isStep_1_k 8 rfl) ic_2 ?_
    refine lv_goto (tgt := 102) hx hb (dc tbL_isStep_1_k 9 rfl) rfl ?_
    exact tL_isStep_nt_b102 C hk0 hk1 x2 x3 x4 x5 (2 : Int32) M hf _ _ _ hI (lv_sub hl [1, 2, 3, 4, 5, 6] rfl)
def mL_isStep_b50 (k0 : Nat) (b0 : Nat) (k1 : Nat) (x2 : Int32) (x3 : Int32) (x4 : Int32) (y0 : Int32) (M : Mem) : Option (Mem × (Int32 ⊕ Nat)) := ite2 (x3 = 0) (chk (okb (x2 + (1 : Int32)) 6) (mL_isStep_b73 k0 b0 k1 x2 x3 x4 y0 (rd M (k0 + 2) ((x2 + (1 : Int32))).toNatClampNeg) M)) (chk (okb x2 6) (mL_isStep_b73 k0 b0 k1 x2 x3 x4 y0 (rd M (k0 + 2) (x2).toNatClampNeg) M))
set_option maxHeartbeats 4000000 in
set_option maxRecDepth 100000 in
theorem tL_isStep_nt_b50 {p : Program} {l : Launch} {e : Env} {s : State} {m : MethodId} {args : Array Value} {below : List Frame} {meth : Method} {c : Code} {G : GT} {kd : Nat → Nat × Nat} {ad : Nat → Nat} (C : Cx p s m args meth c cL_isStep 12 (some .boolean) RL G kd ad) {k0 : Nat} {b0 : Nat} {k1 : Nat} (hk0 : kLaw b0 kd k0) (hk1 : kRoot kd k1) {MO : Mem} {vo : Int32}   : ∀ (x2 : Int32) (x3 : Int32) (x4 : Int32) (y0 : Int32) (M : Mem), mL_isStep_b50 k0 b0 k1 x2 x3 x4 y0 M = some (MO, Sum.inl vo) → At p l e (rmO 5 0 0) s m args below meth c 0 0 (MQ below (Qg G kd ad s.heap.size MO (some (.int vo))) args s 0 0 (AS kd ad s.heap.size)) G kd ad 12 50 [(0, .ref (ad k0)), (1, .ref (ad k1)), (2, .int x2), (3, .int x3), (4, .int x4)] [.int y0] M := by
  intro x2 x3 x4 y0 M hf H locs ls hI hl
  obtain ⟨hx, hb, hml, hr, hown, hts, hlk, hK, hap, hsx⟩ := id C
  unfold mL_isStep_b50 at hf
  refine lv_istore (lv' := [(5, .int y0), (0, .ref (ad k0)), (1, .ref (ad k1)), (2, .int x2), (3, .int x3), (4, .int x4)]) hx hb (dc tbL_isStep_0_k 29 rfl) hl (by decide) rfl (fun ls hl => ?_)
  refine lv_iload_n hx hb (dc tbL_isStep_0_k 30 rfl) rfl (lv_at hl 4 rfl) ?_
  refine lv_if_ne (tgt := 67) hx hb (dc tbL_isStep_0_k 31 rfl) rfl (fun c9 => ?_) (fun c9 => ?_)
  · have hf := ite_f c9 hf
    refine lv_aload_n hx hb (dc tbL_isStep_0_k 39 rfl) rfl (lv_at hl 1 rfl) ?_
    refine ggL_3 hx hb hts hown hK hI hk0.1 q_t2_194 (dc tbL_isStep_1_k 0 rfl) ?_
    refine lv_iload_n hx hb (dc tbL_isStep_1_k 1 rfl) rfl (lv_at hl 3 rfl) ?_
    obtain ⟨h10, hf⟩ := chk_s hf
    refine g_iald hx hb hK hI hk0.2.1 (okb_in h10) (dc tbL_isStep_1_k 2 rfl) ?_
    exact tL_isStep_nt_b73 C hk0 hk1 x2 x3 x4 y0 (rd M (k0 + 2) (x2).toNatClampNeg) M hf _ _ _ hI (lv_sub hl [1, 2, 3, 4, 5, 0] rfl)
  · have hf := ite_t c9 hf
    refine lv_aload_n hx hb (dc tbL_isStep_0_k 32 rfl) rfl (lv_at hl 1 rfl) ?_
    refine ggL_3 hx hb hts hown hK hI hk0.1 q_t2_194 (dc tbL_isStep_0_k 33 rfl) ?_
    refine lv_iload_n hx hb (dc tbL_isStep_0_k 34 rfl) rfl (lv_at hl 3 rfl) ?_
    refine lv_iconst (v := 1) hx hb (dc tbL_isStep_0_k 35 rfl) ic_1 ?_
    refine lv_iadd hx hb (dc tbL_isStep_0_k 36 rfl) ?_
    obtain ⟨h60, hf⟩ := chk_s hf
    refine g_iald hx hb hK hI hk0.2.1 (okb_in h60) (dc tbL_isStep_0_k 37 rfl) ?_
    refine lv_goto (tgt := 73) hx hb (dc tbL_isStep_0_k 38 rfl) rfl ?_
    exact tL_isStep_nt_b73 C hk0 hk1 x2 x3 x4 y0 (rd M (k0 + 2) ((x2 + (1 : Int32))).toNatClampNeg) M hf _ _ _ hI (lv_sub hl [1, 2, 3, 4, 5, 0] rfl)
def mL_isStep_b24 (k0 : Nat) (b0 : Nat) (k1 : Nat) (x2 : Int32) (x3 : Int32) (y0 : Int32) (M : Mem) : Option (Mem × (Int32 ⊕ Nat)) := ite2 (x3 = 0) (cap (mL_sum k0 b0 (x2 + (1 : Int32)) (rd M k0 2) M) (fun r62 => mL_isStep_b50 k0 b0 k1 x2 x3 y0 r62 M)) (cap (mL_sum k0 b0 (0 : Int32) x2 M) (fun r7 => mL_isStep_b50 k0 b0 k1 x2 x3 y0 r7 M))
set_option maxHeartbeats 4000000 in
set_option maxRecDepth 100000 in
theorem tL_isStep_nt_b24 {p : Program} {l : Launch} {e : Env} {s : State} {m : MethodId} {args : Array Value} {below : List Frame} {meth : Method} {c : Code} {G : GT} {kd : Nat → Nat × Nat} {ad : Nat → Nat} (C : Cx p s m args meth c cL_isStep 12 (some .boolean) RL G kd ad) {k0 : Nat} {b0 : Nat} {k1 : Nat} (hk0 : kLaw b0 kd k0) (hk1 : kRoot kd k1) {MO : Mem} {vo : Int32}   : ∀ (x2 : Int32) (x3 : Int32) (y0 : Int32) (M : Mem), mL_isStep_b24 k0 b0 k1 x2 x3 y0 M = some (MO, Sum.inl vo) → At p l e (rmO 5 0 0) s m args below meth c 0 0 (MQ below (Qg G kd ad s.heap.size MO (some (.int vo))) args s 0 0 (AS kd ad s.heap.size)) G kd ad 12 24 [(0, .ref (ad k0)), (1, .ref (ad k1)), (2, .int x2), (3, .int x3)] [.int y0] M := by
  intro x2 x3 y0 M hf H locs ls hI hl
  obtain ⟨hx, hb, hml, hr, hown, hts, hlk, hK, hap, hsx⟩ := id C
  unfold mL_isStep_b24 at hf
  refine lv_istore (lv' := [(4, .int y0), (0, .ref (ad k0)), (1, .ref (ad k1)), (2, .int x2), (3, .int x3)]) hx hb (dc tbL_isStep_0_k 14 rfl) hl (by decide) rfl (fun ls hl => ?_)
  refine lv_iload_n hx hb (dc tbL_isStep_0_k 15 rfl) rfl (lv_at hl 4 rfl) ?_
  refine lv_if_ne (tgt := 44) hx hb (dc tbL_isStep_0_k 16 rfl) rfl (fun c5 => ?_) (fun c5 => ?_)
  · have hf := ite_f c5 hf
    refine lv_aload_n hx hb (dc tbL_isStep_0_k 25 rfl) rfl (lv_at hl 1 rfl) ?_
    refine lv_iconst (v := 0) hx hb (dc tbL_isStep_0_k 26 rfl) ic_0 ?_
    refine lv_iload_n hx hb (dc tbL_isStep_0_k 27 rfl) rfl (lv_at hl 3 rfl) ?_
    obtain ⟨r7, q6, hf⟩ := cap_s hf
    refine g_callVi hx hb hml hown hts hK hap hsx hI (tL_sum l hk0 q6 H.size) cv_L_sum q_t4_164 rfl rfl ⟨Nat.le_of_ble_eq_true rfl, Nat.le_of_ble_eq_true rfl⟩ hk0.1 (by simp) rfl rfl rfl hl.1 rfl (Nat.le_of_ble_eq_true rfl) (dc tbL_isStep_0_k 28 rfl) ⟨Nat.le_of_ble_eq_true rfl, Nat.le_of_ble_eq_true rfl⟩ (fun H locs hI => ?_)
    exact tL_isStep_nt_b50 C hk0 hk1 x2 x3 y0 r7 M hf _ _ _ hI (lv_sub hl [1, 2, 3, 4, 0] rfl)
  · have hf := ite_t c5 hf
    refine lv_aload_n hx hb (dc tbL_isStep_0_k 17 rfl) rfl (lv_at hl 1 rfl) ?_
    refine lv_iload_n hx hb (dc tbL_isStep_0_k 18 rfl) rfl (lv_at hl 3 rfl) ?_
    refine lv_iconst (v := 1) hx hb (dc tbL_isStep_0_k 19 rfl) ic_1 ?_
    refine lv_iadd hx hb (dc tbL_isStep_0_k 20 rfl) ?_
    refine lv_aload_n hx hb (dc tbL_isStep_0_k 21 rfl) rfl (lv_at hl 1 rfl) ?_
    refine ggL_2 hx hb hts hown hK hI hk0.1 q_t2_193 (dc tbL_isStep_0_k 22 rfl) ?_
    obtain ⟨r62, q61, hf⟩ := cap_s hf
    refine g_callVi hx hb hml hown hts hK hap hsx hI (tL_sum l hk0 q61 H.size) cv_L_sum q_t4_164 rfl rfl ⟨Nat.le_of_ble_eq_true rfl, Nat.le_of_ble_eq_true rfl⟩ hk0.1 (by simp) rfl rfl rfl hl.1 rfl (Nat.le_of_ble_eq_true rfl) (dc tbL_isStep_0_k 23 rfl) ⟨Nat.le_of_ble_eq_true rfl, Nat.le_of_ble_eq_true rfl⟩ (fun H locs hI => ?_)
    refine lv_goto (tgt := 50) hx hb (dc tbL_isStep_0_k 24 rfl) rfl ?_
    exact tL_isStep_nt_b50 C hk0 hk1 x2 x3 y0 r62 M hf _ _ _ hI (lv_sub hl [1, 2, 3, 4, 0] rfl)
def mL_isStep (k0 : Nat) (b0 : Nat) (k1 : Nat) (x2 : Int32) (x3 : Int32) (M : Mem) : Option (Mem × (Int32 ⊕ Nat)) := ite2 (x3 = 0) (cap (mL_sum k0 b0 (0 : Int32) x2 M) (fun r65 => mL_isStep_b24 k0 b0 k1 x2 x3 r65 M)) (cap (mL_sum k0 b0 (x2 + (1 : Int32)) (rd M k0 2) M) (fun r3 => mL_isStep_b24 k0 b0 k1 x2 x3 r3 M))
set_option maxHeartbeats 4000000 in
set_option maxRecDepth 100000 in
theorem tL_isStep_nt (l : Launch) {G : GT} {kd : Nat → Nat × Nat} {ad : Nat → Nat} {k0 : Nat} {b0 : Nat} {k1 : Nat} (hk0 : kLaw b0 kd k0) (hk1 : kRoot kd k1) {x2 : Int32} {x3 : Int32} {M : Mem} {MO : Mem} {vo : Int32} (hf : mL_isStep k0 b0 k1 x2 x3 M = some (MO, Sum.inl vo)) (n : Nat) : Met l yL_isStep (Cond.code yL_isStep cL_isStep 12 (some .boolean) :: WA) (rmO 5 0 0) (Pg G kd ad n [.ref (ad k0), .ref (ad k1), .int x2, .int x3] M) (Qg G kd ad n MO (some (.int vo))) 0 0 (AS kd ad n) := by
  refine g_body (own := RL) (by decide) rfl ?_ (Nat.le_of_ble_eq_true rfl)
  intro p e s m args below meth c C _ H locs ls hI hl
  obtain ⟨hx, hb, hml, hr, hown, hts, hlk, hK, hap, hsx⟩ := id C
  have hl : lv_has ls 12 [(0, .ref (ad k0)), (1, .ref (ad k1)), (2, .int x2), (3, .int x3)] := hl
  unfold mL_isStep at hf
  refine lv_iload_n hx hb (dc tbL_isStep_0_k 0 rfl) rfl (lv_at hl 3 rfl) ?_
  refine lv_if_ne (tgt := 13) hx hb (dc tbL_isStep_0_k 1 rfl) rfl (fun c1 => ?_) (fun c1 => ?_)
  · have hf := ite_f c1 hf
    refine lv_aload_n hx hb (dc tbL_isStep_0_k 7 rfl) rfl (lv_at hl 0 rfl) ?_
    refine lv_iload_n hx hb (dc tbL_isStep_0_k 8 rfl) rfl (lv_at hl 2 rfl) ?_
    refine lv_iconst (v := 1) hx hb (dc tbL_isStep_0_k 9 rfl) ic_1 ?_
    refine lv_iadd hx hb (dc tbL_isStep_0_k 10 rfl) ?_
    refine lv_aload_n hx hb (dc tbL_isStep_0_k 11 rfl) rfl (lv_at hl 0 rfl) ?_
    refine ggL_2 hx hb hts hown hK hI hk0.1 q_t2_193 (dc tbL_isStep_0_k 12 rfl) ?_
    obtain ⟨r3, q2, hf⟩ := cap_s hf
    refine g_callVi hx hb hml hown hts hK hap hsx hI (tL_sum l hk0 q2 H.size) cv_L_sum q_t4_164 rfl rfl ⟨Nat.le_of_ble_eq_true rfl, Nat.le_of_ble_eq_true rfl⟩ hk0.1 (by simp) rfl rfl rfl hl.1 rfl (Nat.le_of_ble_eq_true rfl) (dc tbL_isStep_0_k 13 rfl) ⟨Nat.le_of_ble_eq_true rfl, Nat.le_of_ble_eq_true rfl⟩ (fun H locs hI => ?_)
    exact tL_isStep_nt_b24 C hk0 hk1 x2 x3 r3 M hf _ _ _ hI (lv_sub hl [0, 1, 2, 3] rfl)
  · have hf := ite_t c1 hf
    refine lv_aload_n hx hb (dc tbL_isStep_0_k 2 rfl) rfl (lv_at hl 0 rfl) ?_
    refine lv_iconst (v := 0) hx hb (dc tbL_isStep_0_k 3 rfl) ic_0 ?_
    refine lv_iload_n hx hb (dc tbL_isStep_0_k 4 rfl) rfl (lv_at hl 2 rfl) ?_
    obtain ⟨r65, q64, hf⟩ := cap_s hf
    refine g_callVi hx hb hml hown hts hK hap hsx hI (tL_sum l hk0 q64 H.size) cv_L_sum q_t4_164 rfl rfl ⟨Nat.le_of_ble_eq_true rfl, Nat.le_of_ble_eq_true rfl⟩ hk0.1 (by simp) rfl rfl rfl hl.1 rfl (Nat.le_of_ble_eq_true rfl) (dc tbL_isStep_0_k 5 rfl) ⟨Nat.le_of_ble_eq_true rfl, Nat.le_of_ble_eq_true rfl⟩ (fun H locs hI => ?_)
    refine lv_goto (tgt := 24) hx hb (dc tbL_isStep_0_k 6 rfl) rfl ?_
    exact tL_isStep_nt_b24 C hk0 hk1 x2 x3 r65 M hf _ _ _ hI (lv_sub hl [0, 1, 2, 3] rfl)
theorem cv_L_isStep_nt : cvF RL yL_isStep cL_isStep 12 (some .boolean) 3 := ⟨q_t4_162, q_s1_14, q_t1_0, q_t4_163, by decide +kernel⟩
def mL_isFinished_b125 (k0 : Nat) (b0 : Nat) (k1 : Nat) (ih13 : Int32 → Int32 → Int32 → Int32 → Int32 → Mem → Option (Mem × (Int32 ⊕ Nat))) (x2 : Int32) (x3 : Int32) (x4 : Int32) (x5 : Int32) (x6 : Int32) (M : Mem) : Option (Mem × (Int32 ⊕ Nat)) := bnd (x6 + (1 : Int32)) (fun x6_125 => ih13 x2 x3 x4 x5 x6_125 M)
set_option maxHeartbeats 4000000 in
set_option maxRecDepth 100000 in
theorem tL_isFinished_nt_b125 {p : Program} {l : Launch} {e : Env} {s : State} {m : MethodId} {args : Array Value} {below : List Frame} {meth : Method} {c : Code} {G : GT} {kd : Nat → Nat × Nat} {ad : Nat → Nat} (C : Cx p s m args meth c cL_isFinished 8 (some .boolean) RL G kd ad) {k0 : Nat} {b0 : Nat} {k1 : Nat} (hk0 : kLaw b0 kd k0) (hk1 : kRoot kd k1) {MO : Mem} {vo : Int32} {ih13 : Int32 → Int32 → Int32 → Int32 → Int32 → Mem → Option (Mem × (Int32 ⊕ Nat))} (hih13 : ∀ (x2 : Int32) (x3 : Int32) (x4 : Int32) (x5 : Int32) (x6 : Int32) (M : Mem), ih13 x2 x3 x4 x5 x6 M = some (MO, Sum.inl vo) → At p l e (rmO 4 0 0) s m args below meth c 0 0 (MQ below (Qg G kd ad s.heap.size MO (some (.int vo))) args s 0 0 (AS kd ad s.heap.size)) G kd ad 8 13 [(0, .ref (ad k0)), (1, .ref (ad k1)), (2, .int x2), (3, .int x3), (4, .int x4), (5, .int x5), (6, .int x6)] [] M) : ∀ (x2 : Int32) (x3 : Int32) (x4 : Int32) (x5 : Int32) (x6 : Int32) (M : Mem), mL_isFinished_b125 k0 b0 k1 ih13 x2 x3 x4 x5 x6 M = some (MO, Sum.inl vo) → At p l e (rmO 4 0 0) s m args below meth c 0 0 (MQ below (Qg G kd ad s.heap.size MO (some (.int vo))) args s 0 0 (AS kd ad s.heap.size)) G kd ad 8 125 [(0, .ref (ad k0)), (1, .ref (ad k1)), (2, .int x2), (3, .int x3), (4, .int x4), (5, .int x5), (6, .int x6)] [] M := by
  intro x2 x3 x4 x5 x6 M hf H locs ls hI hl
  obtain ⟨hx, hb, hml, hr, hown, hts, hlk, hK, hap, hsx⟩ := id C
  unfold mL_isFinished_b125 at hf
  obtain ⟨x6_125, e15, hf⟩ := bnd_s hf
  refine lv_iinc (v := x6_125) (lv' := [(6, .int x6_125), (0, .ref (ad k0)), (1, .ref (ad k1)), (2, .int x2), (3, .int x3), (4, .int x4), (5, .int x5)]) hx hb (dc tbL_isFinished_1_k 32 rfl) hl (k := 6) rfl (ii_e e15 ic_1) (by decide) rfl (fun ls hl => ?_)
  refine lv_goto (tgt := 13) hx hb (dc tbL_isFinished_1_k 33 rfl) rfl ?_
  exact hih13 x2 x3 x4 x5 x6_125 M hf _ _ _ hI (lv_sub hl [1, 2, 3, 4, 5, 6, 0] rfl)
def mL_isFinished_b123 (k0 : Nat) (b0 : Nat) (k1 : Nat) (ih13 : Int32 → Int32 → Int32 → Int32 → Int32 → Mem → Option (Mem × (Int32 ⊕ Nat))) (x2 : Int32) (x3 : Int32) (x4 : Int32) (x6 : Int32) (y0 : Int32) (M : Mem) : Option (Mem × (Int32 ⊕ Nat)) := mL_isFinished_b125 k0 b0 k1 ih13 x2 x3 x4 y0 x6 M
set_option maxHeartbeats 4000000 in
set_option maxRecDepth 100000 in
theorem tL_isFinished_nt_b123 {p : Program} {l : Launch} {e : Env} {s : State} {m : MethodId} {args : Array Value} {below : List Frame} {meth : Method} {c : Code} {G : GT} {kd : Nat → Nat × Nat} {ad : Nat → Nat} (C : Cx p s m args meth c cL_isFinished 8 (some .boolean) RL G kd ad) {k0 : Nat} {b0 : Nat} {k1 : Nat} (hk0 : kLaw b0 kd k0) (hk1 : kRoot kd k1) {MO : Mem} {vo : Int32} {ih13 : Int32 → Int32 → Int32 → Int32 → Int32 → Mem → Option (Mem × (Int32 ⊕ Nat))} (hih13 : ∀ (x2 : Int32) (x3 : Int32) (x4 : Int32) (x5 : Int32) (x6 : Int32) (M : Mem), ih13 x2 x3 x4 x5 x6 M = some (MO, Sum.inl vo) → At p l e (rmO 4 0 0) s m args below meth c 0 0 (MQ below (Qg G kd ad s.heap.size MO (some (.int vo))) args s 0 0 (AS kd ad s.heap.size)) G kd ad 8 13 [(0, .ref (ad k0)), (1, .ref (ad k1)), (2, .int x2), (3, .int x3), (4, .int x4), (5, .int x5), (6, .int x6)] [] M) : ∀ (x2 : Int32) (x3 : Int32) (x4 : Int32) (x6 : Int32) (y0 : Int32) (M : Mem), mL_isFinished_b123 k0 b0 k1 ih13 x2 x3 x4 x6 y0 M = some (MO, Sum.inl vo) → At p l e (rmO 4 0 0) s m args below meth c 0 0 (MQ below (Qg G kd ad s.heap.size MO (some (.int vo))) args s 0 0 (AS kd ad s.heap.size)) G kd ad 8 123 [(0, .ref (ad k0)), (1, .ref (ad k1)), (2, .int x2), (3, .int x3), (4, .int x4), (6, .int x6)] [.int y0] M := by
  intro x2 x3 x4 x6 y0 M hf H locs ls hI hl
  obtain ⟨hx, hb, hml, hr, hown, hts, hlk, hK, hap, hsx⟩ := id C
  unfold mL_isFinished_b123 at hf
  refine lv_istore (lv' := [(5, .int y0), (0, .ref (ad k0)), (1, .ref (ad k1)), (2, .int x2), (3, .int x3), (4, .int x4), (6, .int x6)]) hx hb (dc tbL_isFinished_1_k 31 rfl) hl (by decide) rfl (fun ls hl => ?_)
  exact tL_isFinished_nt_b125 C hk0 hk1 hih13 x2 x3 x4 y0 x6 M hf _ _ _ hI (lv_sub hl [1, 2, 3, 4, 5, 0, 6] rfl)
def mL_isFinished_b103 (k0 : Nat) (b0 : Nat) (k1 : Nat) (ih13 : Int32 → Int32 → Int32 → Int32 → Int32 → Mem → Option (Mem × (Int32 ⊕ Nat))) (x2 : Int32) (x3 : Int32) (x6 : Int32) (x7 : Int32) (y0 : Int32) (M : Mem) : Option (Mem × (Int32 ⊕ Nat)) := chk (okb x6 5) (ite2 ((rd M (k0 + 3) (x6).toNatClampNeg) = 0) (mL_isFinished_b123 k0 b0 k1 ih13 x2 x3 y0 x6 (-x7) M) (mL_isFinished_b123 k0 b0 k1 ih13 x2 x3 y0 x6 x7 M))
set_option maxHeartbeats 4000000 in
set_option maxRecDepth 100000 in
theorem tL_isFinished_nt_b103 {p : Program} {l : Launch} {e : Env} {s : State} {m : MethodId} {args : Array Value} {below : List Frame} {meth : Method} {c : Code} {G : GT} {kd : Nat → Nat × Nat} {ad : Nat → Nat} (C : Cx p s m args meth c cL_isFinished 8 (some .boolean) RL G kd ad) {k0 : Nat} {b0 : Nat} {k1 : Nat} (hk0 : kLaw b0 kd k0) (hk1 : kRoot kd k1) {MO : Mem} {vo : Int32} {ih13 : Int32 → Int32 → Int32 → Int32 → Int32 → Mem → Option (Mem × (Int32 ⊕ Nat))} (hih13 : ∀ (x2 : Int32) (x3 : Int32) (x4 : Int32) (x5 : Int32) (x6 : Int32) (M : Mem), ih13 x2 x3 x4 x5 x6 M = some (MO, Sum.inl vo) → At p l e (rmO 4 0 0) s m args below meth c 0 0 (MQ below (Qg G kd ad s.heap.size MO (some (.int vo))) args s 0 0 (AS kd ad s.heap.size)) G kd ad 8 13 [(0, .ref (ad k0)), (1, .ref (ad k1)), (2, .int x2), (3, .int x3), (4, .int x4), (5, .int x5), (6, .int x6)] [] M) : ∀ (x2 : Int32) (x3 : Int32) (x6 : Int32) (x7 : Int32) (y0 : Int32) (M : Mem), mL_isFinished_b103 k0 b0 k1 ih13 x2 x3 x6 x7 y0 M = some (MO, Sum.inl vo) → At p l e (rmO 4 0 0) s m args below meth c 0 0 (MQ below (Qg G kd ad s.heap.size MO (some (.int vo))) args s 0 0 (AS kd ad s.heap.size)) G kd ad 8 103 [(0, .ref (ad k0)), (1, .ref (ad k1)), (2, .int x2), (3, .int x3), (6, .int x6), (7, .int x7)] [.int y0] M := by
  intro x2 x3 x6 x7 y0 M hf H locs ls hI hl
  obtain ⟨hx, hb, hml, hr, hown, hts, hlk, hK, hap, hsx⟩ := id C
  unfold mL_isFinished_b103 at hf
  refine lv_istore (lv' := [(4, .int y0), (0, .ref (ad k0)), (1, .ref (ad k1)), (2, .int x2), (3, .int x3), (6, .int x6), (7, .int x7)]) hx hb (dc tbL_isFinished_1_k 21 rfl) hl (by decide) rfl (fun ls hl => ?_)
  refine lv_aload_n hx hb (dc tbL_isFinished_1_k 22 rfl) rfl (lv_at hl 1 rfl) ?_
  refine ggL_4 hx hb hts hown hK hI hk0.1 q_t2_195 (dc tbL_isFinished_1_k 23 rfl) ?_
  refine lv_iload hx hb (dc tbL_isFinished_1_k 24 rfl) (lv_at hl 5 rfl) ?_
  obtain ⟨h18, hf⟩ := chk_s hf
  refine g_zald hx hb hK hI hk0.2.2 (okb_in h18) (dc tbL_isFinished_1_k 25 rfl) ?_
  refine lv_if_eq (tgt := 120) hx hb (dc tbL_isFinished_1_k 26 rfl) rfl (fun c19 => ?_) (fun c19 => ?_)
  · have hf := ite_t c19 hf
    refine lv_iload hx hb (dc tbL_isFinished_1_k 29 rfl) (lv_at hl 6 rfl) ?_
    refine lv_ineg hx hb (dc tbL_isFinished_1_k 30 rfl) ?_
    exact tL_isFinished_nt_b123 C hk0 hk1 hih13 x2 x3 y0 x6 (-x7) M hf _ _ _ hI (lv_sub hl [1, 2, 3, 4, 0, 5] rfl)
  · have hf := ite_f c19 hf
    refine lv_iload hx hb (dc tbL_isFinished_1_k 27 rfl) (lv_at hl 6 rfl) ?_
    refine lv_goto (tgt := 123) hx hb (dc tbL_isFinished_1_k 28 rfl) rfl ?_
    exact tL_isFinished_nt_b123 C hk0 hk1 hih13 x2 x3 y0 x6 x7 M hf _ _ _ hI (lv_sub hl [1, 2, 3, 4, 0, 5] rfl)
def mL_isFinished_b13 (k0 : Nat) (b0 : Nat) (k1 : Nat) (ih13 : Int32 → Int32 → Int32 → Int32 → Int32 → Mem → Option (Mem × (Int32 ⊕ Nat))) (x2 : Int32) (x3 : Int32) (x4 : Int32) (x5 : Int32) (x6 : Int32) (M : Mem) : Option (Mem × (Int32 ⊕ Nat)) := ite2 ((rd M k0 2) < x6) (some (M, Sum.inl (1 : Int32))) (chk (okb x6 6) (bnd ((x2 + (x4 * (rd M (k0 + 2) (x6).toNatClampNeg)))) (fun x2_34 => chk (okb x6 6) (bnd ((x3 + (x5 * (rd M (k0 + 2) (x6).toNatClampNeg)))) (fun x3_47 => calx (mX6_finishedCorner k1 x6 (0 : Int32) M) (fun M8 r7 => ite2 (r7 = x2_34) (calx (mX6_finishedCorner k1 x6 (1 : Int32) M8) (fun M12 r11 => ite2 (r11 = x3_47) (ite2 ((rd M12 k0 2) ≤ x6) (mL_isFinished_b125 k0 b0 k1 ih13 x2_34 x3_47 x4 x5 x6 M12) (chk (okb x6 5) (ite2 ((rd M12 (k0 + 3) (x6).toNatClampNeg) = 0) (mL_isFinished_b103 k0 b0 k1 ih13 x2_34 x3_47 x6 x4 x5 M12) (mL_isFinished_b103 k0 b0 k1 ih13 x2_34 x3_47 x6 x4 (-x5) M12)))) (some (M12, Sum.inl (0 : Int32))))) (some (M8, Sum.inl (0 : Int32)))))))))
set_option maxHeartbeats 4000000 in
set_option maxRecDepth 100000 in
theorem tL_isFinished_nt_b13 {p : Program} {l : Launch} {e : Env} {s : State} {m : MethodId} {args : Array Value} {below : List Frame} {meth : Method} {c : Code} {G : GT} {kd : Nat → Nat × Nat} {ad : Nat → Nat} (C : Cx p s m args meth c cL_isFinished 8 (some .boolean) RL G kd ad) {k0 : Nat} {b0 : Nat} {k1 : Nat} (hk0 : kLaw b0 kd k0) (hk1 : kRoot kd k1) {MO : Mem} {vo : Int32} {ih13 : Int32 → Int32 → Int32 → Int32 → Int32 → Mem → Option (Mem × (Int32 ⊕ Nat))} (hih13 : ∀ (x2 : Int32) (x3 : Int32) (x4 : Int32) (x5 : Int32) (x6 : Int32) (M : Mem), ih13 x2 x3 x4 x5 x6 M = some (MO, Sum.inl vo) → At p l e (rmO 4 0 0) s m args below meth c 0 0 (MQ below (Qg G kd ad s.heap.size MO (some (.int vo))) args s 0 0 (AS kd ad s.heap.size)) G kd ad 8 13 [(0, .ref (ad k0)), (1, .ref (ad k1)), (2, .int x2), (3, .int x3), (4, .int x4), (5, .int x5), (6, .int x6)] [] M) : ∀ (x2 : Int32) (x3 : Int32) (x4 : Int32) (x5 : Int32) (x6 : Int32) (M : Mem), mL_isFinished_b13 k0 b0 k1 ih13 x2 x3 x4 x5 x6 M = some (MO, Sum.inl vo) → At p l e (rmO 4 0 0) s m args below meth c 0 0 (MQ below (Qg G kd ad s.heap.size MO (some (.int vo))) args s 0 0 (AS kd ad s.heap.size)) G kd ad 8 13 [(0, .ref (ad k0)), (1, .ref (ad k1)), (2, .int x2), (3, .int x3), (4, .int x4), (5, .int x5), (6, .int x6)] [] M := by
  intro x2 x3 x4 x5 x6 M hf H locs ls hI hl
  obtain ⟨hx, hb, hml, hr, hown, hts, hlk, hK, hap, hsx⟩ := id C
  unfold mL_isFinished_b13 at hf
  refine lv_iload hx hb (dc tbL_isFinished_0_k 10 rfl) (lv_at hl 6 rfl) ?_
  refine lv_aload_n hx hb (dc tbL_isFinished_0_k 11 rfl) rfl (lv_at hl 0 rfl) ?_
  refine ggL_2 hx hb hts hown hK hI hk0.1 q_t2_193 (dc tbL_isFinished_0_k 12 rfl) ?_
  refine lv_icmp_gt (tgt := 131) hx hb (dc tbL_isFinished_0_k 13 rfl) rfl (fun c1 => ?_) (fun c1 => ?_)
  · have hf := ite_t c1 hf
    refine lv_iconst (v := 1) hx hb (dc tbL_isFinished_1_k 34 rfl) ic_1 ?_
    cases hf
    exact g_zret hx hb hr hlk hI rfl (dc tbL_isFinished_1_k 35 rfl)
  · have hf := ite_f c1 hf
    refine lv_iload_n hx hb (dc tbL_isFinished_0_k 14 rfl) rfl (lv_at hl 2 rfl) ?_
    refine lv_iload hx hb (dc tbL_isFinished_0_k 15 rfl) (lv_at hl 4 rfl) ?_
    refine lv_aload_n hx hb (dc tbL_isFinished_0_k 16 rfl) rfl (lv_at hl 0 rfl) ?_
    refine ggL_3 hx hb hts hown hK hI hk0.1 q_t2_194 (dc tbL_isFinished_0_k 17 rfl) ?_
    refine lv_iload hx hb (dc tbL_isFinished_0_k 18 rfl) (lv_at hl 6 rfl) ?_
    obtain ⟨h2, hf⟩ := chk_s hf
    refine g_iald hx hb hK hI hk0.2.1 (okb_in h2) (dc tbL_isFinished_0_k 19 rfl) ?_
    refine lv_imul hx hb (dc tbL_isFinished_0_k 20 rfl) ?_
    refine lv_iadd hx hb (dc tbL_isFinished_0_k 21 rfl) ?_
    obtain ⟨x2_34, e3, hf⟩ := bnd_s hf
    refine lv_ei e3 ?_
    refine lv_istore_n (lv' := [(2, .int x2_34), (0, .ref (ad k0)), (1, .ref (ad k1)), (3, .int x3), (4, .int x4), (5, .int x5), (6, .int x6)]) hx hb (dc tbL_isFinished_0_k 22 rfl) rfl hl (by decide) rfl (fun ls hl => ?_)
    refine lv_iload_n hx hb (dc tbL_isFinished_0_k 23 rfl) rfl (lv_at hl 3 rfl) ?_
    refine lv_iload hx hb (dc tbL_isFinished_0_k 24 rfl) (lv_at hl 5 rfl) ?_
    refine lv_aload_n hx hb (dc tbL_isFinished_0_k 25 rfl) rfl (lv_at hl 1 rfl) ?_
    refine ggL_3 hx hb hts hown hK hI hk0.1 q_t2_194 (dc tbL_isFinished_0_k 26 rfl) ?_
    refine lv_iload hx hb (dc tbL_isFinished_0_k 27 rfl) (lv_at hl 6 rfl) ?_
    obtain ⟨h4, hf⟩ := chk_s hf
    refine g_iald hx hb hK hI hk0.2.1 (okb_in h4) (dc tbL_isFinished_0_k 28 rfl) ?_
    refine lv_imul hx hb (dc tbL_isFinished_0_k 29 rfl) ?_
    refine lv_iadd hx hb (dc tbL_isFinished_0_k 30 rfl) ?_
    obtain ⟨x3_47, e5, hf⟩ := bnd_s hf
    refine lv_ei e5 ?_
    refine lv_istore_n (lv' := [(3, .int x3_47), (2, .int x2_34), (0, .ref (ad k0)), (1, .ref (ad k1)), (4, .int x4), (5, .int x5), (6, .int x6)]) hx hb (dc tbL_isFinished_0_k 31 rfl) rfl hl (by decide) rfl (fun ls hl => ?_)
    refine lv_aload_n hx hb (dc tbL_isFinished_0_k 32 rfl) rfl (lv_at hl 3 rfl) ?_
    refine lv_iload hx hb (dc tbL_isFinished_0_k 33 rfl) (lv_at hl 6 rfl) ?_
    refine lv_iconst (v := 0) hx hb (dc tbL_isFinished_0_k 34 rfl) ic_0 ?_
    obtain ⟨M8, r7, q6, hf⟩ := calx_n hf
    refine g_callVi hx hb hml hown hts hK hap hsx hI (tX6_finishedCorner_nt l hk1 q6 H.size) cv_X6_finishedCorner q_t5_50 rfl rfl ⟨Nat.le_of_ble_eq_true rfl, Nat.le_of_ble_eq_true rfl⟩ hk1.1 (by simp) rfl rfl rfl hl.1 rfl (Nat.le_of_ble_eq_true rfl) (dc tbL_isFinished_0_k 35 rfl) ⟨Nat.le_of_ble_eq_true rfl, Nat.le_of_ble_eq_true rfl⟩ (fun H locs hI => ?_)
    refine lv_iload_n hx hb (dc tbL_isFinished_0_k 36 rfl) rfl (lv_at hl 1 rfl) ?_
    refine lv_icmp_ne (tgt := 70) hx hb (dc tbL_isFinished_0_k 37 rfl) rfl (fun c9 => ?_) (fun c9 => ?_)
    · have hf := ite_f c9 hf
      refine lv_iconst (v := 0) hx hb (dc tbL_isFinished_1_k 4 rfl) ic_0 ?_
      cases hf
      exact g_zret hx hb hr hlk hI rfl (dc tbL_isFinished_1_k 5 rfl)
    · have hf := ite_t c9 hf
      refine lv_aload_n hx hb (dc tbL_isFinished_0_k 38 rfl) rfl (lv_at hl 3 rfl) ?_
      refine lv_iload hx hb (dc tbL_isFinished_0_k 39 rfl) (lv_at hl 6 rfl) ?_
      refine lv_iconst (v := 1) hx hb (dc tbL_isFinished_1_k 0 rfl) ic_1 ?_
      obtain ⟨M12, r11, q10, hf⟩ := calx_n hf
      refine g_callVi hx hb hml hown hts hK hap hsx hI (tX6_finishedCorner_nt l hk1 q10 H.size) cv_X6_finishedCorner q_t5_50 rfl rfl ⟨Nat.le_of_ble_eq_true rfl, Nat.le_of_ble_eq_true rfl⟩ hk1.1 (by simp) rfl rfl rfl hl.1 rfl (Nat.le_of_ble_eq_true rfl) (dc tbL_isFinished_1_k 1 rfl) ⟨Nat.le_of_ble_eq_true rfl, Nat.le_of_ble_eq_true rfl⟩ (fun H locs hI => ?_)
      refine lv_iload_n hx hb (dc tbL_isFinished_1_k 2 rfl) rfl (lv_at hl 0 rfl) ?_
      refine lv_icmp_eq (tgt := 72) hx hb (dc tbL_isFinished_1_k 3 rfl) rfl (fun c13 => ?_) (fun c13 => ?_)
      · have hf := ite_t c13 hf
        refine lv_iload hx hb (dc tbL_isFinished_1_k 6 rfl) (lv_at hl 6 rfl) ?_
        refine lv_aload_n hx hb (dc tbL_isFinished_1_k 7 rfl) rfl (lv_at hl 2 rfl) ?_
        refine ggL_2 hx hb hts hown hK hI hk0.1 q_t2_193 (dc tbL_isFinished_1_k 8 rfl) ?_
        refine lv_icmp_ge (tgt := 125) hx hb (dc tbL_isFinished_1_k 9 rfl) rfl (fun c14 => ?_) (fun c14 => ?_)
        · have hf := ite_t c14 hf
          exact tL_isFinished_nt_b125 C hk0 hk1 hih13 x2_34 x3_47 x4 x5 x6 M12 hf _ _ _ hI (lv_sub hl [2, 3, 1, 0, 4, 5, 6] rfl)
        · have hf := ite_f c14 hf
          refine lv_iload hx hb (dc tbL_isFinished_1_k 10 rfl) (lv_at hl 4 rfl) ?_
          refine lv_istore (lv' := [(7, .int x4), (3, .int x3_47), (2, .int x2_34), (0, .ref (ad k0)), (1, .ref (ad k1)), (4, .int x4), (5, .int x5), (6, .int x6)]) hx hb (dc tbL_isFinished_1_k 11 rfl) hl (by decide) rfl (fun ls hl => ?_)
          refine lv_aload_n hx hb (dc tbL_isFinished_1_k 12 rfl) rfl (lv_at hl 3 rfl) ?_
          refine ggL_4 hx hb hts hown hK hI hk0.1 q_t2_195 (dc tbL_isFinished_1_k 13 rfl) ?_
          refine lv_iload hx hb (dc tbL_isFinished_1_k 14 rfl) (lv_at hl 7 rfl) ?_
          obtain ⟨h16, hf⟩ := chk_s hf
          refine g_zald hx hb hK hI hk0.2.2 (okb_in h16) (dc tbL_isFinished_1_k 15 rfl) ?_
          refine lv_if_eq (tgt := 101) hx hb (dc tbL_isFinished_1_k 16 rfl) rfl (fun c17 => ?_) (fun c17 => ?_)
          · have hf := ite_t c17 hf
            refine lv_iload hx hb (dc tbL_isFinished_1_k 20 rfl) (lv_at hl 6 rfl) ?_
            exact tL_isFinished_nt_b103 C hk0 hk1 hih13 x2_34 x3_47 x6 x4 x5 M12 hf _ _ _ hI (lv_sub hl [3, 4, 2, 1, 7, 0] rfl)
          · have hf := ite_f c17 hf
            refine lv_iload hx hb (dc tbL_isFinished_1_k 17 rfl) (lv_at hl 6 rfl) ?_
            refine lv_ineg hx hb (dc tbL_isFinished_1_k 18 rfl) ?_
            refine lv_goto (tgt := 103) hx hb (dc tbL_isFinished_1_k 19 rfl) rfl ?_
            exact tL_isFinished_nt_b103 C hk0 hk1 hih13 x2_34 x3_47 x6 x4 (-x5) M12 hf _ _ _ hI (lv_sub hl [3, 4, 2, 1, 7, 0] rfl)
      · have hf := ite_f c13 hf
        refine lv_iconst (v := 0) hx hb (dc tbL_isFinished_1_k 4 rfl) ic_0 ?_
        cases hf
        exact g_zret hx hb hr hlk hI rfl (dc tbL_isFinished_1_k 5 rfl)
def mL_isFinished_l13 (k0 : Nat) (b0 : Nat) (k1 : Nat) : Nat → Int32 → Int32 → Int32 → Int32 → Int32 → Mem → Option (Mem × (Int32 ⊕ Nat))
  | 0 => fun _ _ _ _ _ _ => none
  | n + 1 => mL_isFinished_b13 k0 b0 k1 (mL_isFinished_l13 k0 b0 k1 n)
theorem tL_isFinished_nt_l13 {p : Program} {l : Launch} {e : Env} {s : State} {m : MethodId} {args : Array Value} {below : List Frame} {meth : Method} {c : Code} {G : GT} {kd : Nat → Nat × Nat} {ad : Nat → Nat} (C : Cx p s m args meth c cL_isFinished 8 (some .boolean) RL G kd ad) {k0 : Nat} {b0 : Nat} {k1 : Nat} (hk0 : kLaw b0 kd k0) (hk1 : kRoot kd k1) {MO : Mem} {vo : Int32}   : ∀ (fuel : Nat) (x2 : Int32) (x3 : Int32) (x4 : Int32) (x5 : Int32) (x6 : Int32) (M : Mem), mL_isFinished_l13 k0 b0 k1 fuel x2 x3 x4 x5 x6 M = some (MO, Sum.inl vo) → At p l e (rmO 4 0 0) s m args below meth c 0 0 (MQ below (Qg G kd ad s.heap.size MO (some (.int vo))) args s 0 0 (AS kd ad s.heap.size)) G kd ad 8 13 [(0, .ref (ad k0)), (1, .ref (ad k1)), (2, .int x2), (3, .int x3), (4, .int x4), (5, .int x5), (6, .int x6)] [] M := by
  intro fuel
  induction fuel with
  | zero => intro x2 x3 x4 x5 x6 M hf; cases hf
  | succ n IH => exact tL_isFinished_nt_b13 C hk0 hk1 IH
def mL_isFinished (k0 : Nat) (b0 : Nat) (k1 : Nat) (M : Mem) : Option (Mem × (Int32 ⊕ Nat)) := mL_isFinished_l13 k0 b0 k1 5000 (0 : Int32) (0 : Int32) (1 : Int32) (0 : Int32) (0 : Int32) M
set_option maxHeartbeats 4000000 in
set_option maxRecDepth 100000 in
theorem tL_isFinished_nt (l : Launch) {G : GT} {kd : Nat → Nat × Nat} {ad : Nat → Nat} {k0 : Nat} {b0 : Nat} {k1 : Nat} (hk0 : kLaw b0 kd k0) (hk1 : kRoot kd k1) {M : Mem} {MO : Mem} {vo : Int32} (hf : mL_isFinished k0 b0 k1 M = some (MO, Sum.inl vo)) (n : Nat) : Met l yL_isFinished (Cond.code yL_isFinished cL_isFinished 8 (some .boolean) :: WA) (rmO 4 0 0) (Pg G kd ad n [.ref (ad k0), .ref (ad k1)] M) (Qg G kd ad n MO (some (.int vo))) 0 0 (AS kd ad n) := by
  refine g_body (own := RL) (by decide) rfl ?_ (Nat.le_of_ble_eq_true rfl)
  intro p e s m args below meth c C _ H locs ls hI hl
  obtain ⟨hx, hb, hml, hr, hown, hts, hlk, hK, hap, hsx⟩ := id C
  have hl : lv_has ls 8 [(0, .ref (ad k0)), (1, .ref (ad k1))] := hl
  unfold mL_isFinished at hf
  refine lv_iconst (v := 0) hx hb (dc tbL_isFinished_0_k 0 rfl) ic_0 ?_
  refine lv_istore_n (lv' := [(2, .int (0 : Int32)), (0, .ref (ad k0)), (1, .ref (ad k1))]) hx hb (dc tbL_isFinished_0_k 1 rfl) rfl hl (by decide) rfl (fun ls hl => ?_)
  refine lv_iconst (v := 0) hx hb (dc tbL_isFinished_0_k 2 rfl) ic_0 ?_
  refine lv_istore_n (lv' := [(3, .int (0 : Int32)), (2, .int (0 : Int32)), (0, .ref (ad k0)), (1, .ref (ad k1))]) hx hb (dc tbL_isFinished_0_k 3 rfl) rfl hl (by decide) rfl (fun ls hl => ?_)
  refine lv_iconst (v := 1) hx hb (dc tbL_isFinished_0_k 4 rfl) ic_1 ?_
  refine lv_istore (lv' := [(4, .int (1 : Int32)), (3, .int (0 : Int32)), (2, .int (0 : Int32)), (0, .ref (ad k0)), (1, .ref (ad k1))]) hx hb (dc tbL_isFinished_0_k 5 rfl) hl (by decide) rfl (fun ls hl => ?_)
  refine lv_iconst (v := 0) hx hb (dc tbL_isFinished_0_k 6 rfl) ic_0 ?_
  refine lv_istore (lv' := [(5, .int (0 : Int32)), (4, .int (1 : Int32)), (3, .int (0 : Int32)), (2, .int (0 : Int32)), (0, .ref (ad k0)), (1, .ref (ad k1))]) hx hb (dc tbL_isFinished_0_k 7 rfl) hl (by decide) rfl (fun ls hl => ?_)
  refine lv_iconst (v := 0) hx hb (dc tbL_isFinished_0_k 8 rfl) ic_0 ?_
  refine lv_istore (lv' := [(6, .int (0 : Int32)), (5, .int (0 : Int32)), (4, .int (1 : Int32)), (3, .int (0 : Int32)), (2, .int (0 : Int32)), (0, .ref (ad k0)), (1, .ref (ad k1))]) hx hb (dc tbL_isFinished_0_k 9 rfl) hl (by decide) rfl (fun ls hl => ?_)
  exact tL_isFinished_nt_l13 C hk0 hk1 5000 (0 : Int32) (0 : Int32) (1 : Int32) (0 : Int32) (0 : Int32) M hf _ _ _ hI (lv_sub hl [5, 6, 4, 3, 2, 1, 0] rfl)
theorem cv_L_isFinished_nt : cvF RL yL_isFinished cL_isFinished 8 (some .boolean) 1 := ⟨q_t5_48, q_s2_9, q_t1_0, q_t5_49, by decide +kernel⟩
