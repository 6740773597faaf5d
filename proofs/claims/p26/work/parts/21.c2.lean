def mX2_walk_b272 (k0 : Nat) (k1 : Nat) (ih13 : Int32 → Int32 → Int32 → Int32 → Int32 → Int32 → Int32 → Int32 → Mem → Option (Mem × Unit)) (x3 : Int32) (x5 : Int32) (x6 : Int32) (x7 : Int32) (x8 : Int32) (x9 : Int32) (x10 : Int32) (x11 : Int32) (M : Mem) : Option (Mem × Unit) := bnd ((x11 + x3)) (fun x11_276 => ih13 x3 x5 x6 x7 x8 x9 x10 x11_276 M)
set_option maxHeartbeats 4000000 in
set_option maxRecDepth 100000 in
theorem tX2_walk_b272 {p : Program} {l : Launch} {e : Env} {s : State} {m : MethodId} {args : Array Value} {below : List Frame} {meth : Method} {c : Code} {G : GT} {kd : Nat → Nat × Nat} {ad : Nat → Nat} (C : Cx p s m args meth c cX2_walk 15 none RX2 G kd ad) {k0 : Nat} {k1 : Nat} (hk0 : kPlaces kd k0) (hk1 : kPart kd k1) {MO : Mem} {vo : Unit} {ih13 : Int32 → Int32 → Int32 → Int32 → Int32 → Int32 → Int32 → Int32 → Mem → Option (Mem × Unit)} (hih13 : ∀ (x3 : Int32) (x5 : Int32) (x6 : Int32) (x7 : Int32) (x8 : Int32) (x9 : Int32) (x10 : Int32) (x11 : Int32) (M : Mem), ih13 x3 x5 x6 x7 x8 x9 x10 x11 M = some (MO, vo) → At p l e (rmO 0 0 0) s m args below meth c 0 0 (MQ below (Qg G kd ad s.heap.size MO none) args s 0 0 (AS kd ad s.heap.size)) G kd ad 15 13 [(0, .ref (ad k0)), (1, .ref (ad k1)), (3, .int x3), (5, .int x5), (6, .int x6), (7, .int x7), (8, .int x8), (9, .int x9), (10, .int x10), (11, .int x11)] [] M) : ∀ (x3 : Int32) (x5 : Int32) (x6 : Int32) (x7 : Int32) (x8 : Int32) (x9 : Int32) (x10 : Int32) (x11 : Int32) (M : Mem), mX2_walk_b272 k0 k1 ih13 x3 x5 x6 x7 x8 x9 x10 x11 M = some (MO, vo) → At p l e (rmO 0 0 0) s m args below meth c 0 0 (MQ below (Qg G kd ad s.heap.size MO none) args s 0 0 (AS kd ad s.heap.size)) G kd ad 15 272 [(0, .ref (ad k0)), (1, .ref (ad k1)), (3, .int x3), (5, .int x5), (6, .int x6), (7, .int x7), (8, .int x8), (9, .int x9), (10, .int x10), (11, .int x11)] [] M := by
  intro x3 x5 x6 x7 x8 x9 x10 x11 M hf H locs ls hI hl
  obtain ⟨hx, hb, hml, hr, hown, hts, hlk, hK, hap, hsx⟩ := id C
  unfold mX2_walk_b272 at hf
  refine lv_iload hx hb (dc tbX2_walk_3_k 25 rfl) (lv_at hl 9 rfl) ?_
  refine lv_iload_n hx hb (dc tbX2_walk_3_k 26 rfl) rfl (lv_at hl 2 rfl) ?_
  refine lv_iadd hx hb (dc tbX2_walk_3_k 27 rfl) ?_
  obtain ⟨x11_276, e38, hf⟩ := bnd_s hf
  refine lv_ei e38 ?_
  refine lv_istore (lv' := [(11, .int x11_276), (0, .ref (ad k0)), (1, .ref (ad k1)), (3, .int x3), (5, .int x5), (6, .int x6), (7, .int x7), (8, .int x8), (9, .int x9), (10, .int x10)]) hx hb (dc tbX2_walk_3_k 28 rfl) hl (by decide) rfl (fun ls hl => ?_)
  refine lv_goto (tgt := 13) hx hb (dc tbX2_walk_3_k 29 rfl) rfl ?_
  exact hih13 x3 x5 x6 x7 x8 x9 x10 x11_276 M hf _ _ _ hI (lv_sub hl [1, 2, 3, 4, 5, 6, 7, 8, 9, 0] rfl)
def mX2_walk_b267 (k0 : Nat) (k1 : Nat) (ih13 : Int32 → Int32 → Int32 → Int32 → Int32 → Int32 → Int32 → Int32 → Mem → Option (Mem × Unit)) (x3 : Int32) (x5 : Int32) (x6 : Int32) (x7 : Int32) (x8 : Int32) (x9 : Int32) (x11 : Int32) (y0 : Int32) (y1 : Int32) (M : Mem) : Option (Mem × Unit) := bnd (((y0 + y1) &&& (3 : Int32))) (fun x10_270 => mX2_walk_b272 k0 k1 ih13 x3 x5 x6 x7 x8 x9 x10_270 x11 M)
set_option maxHeartbeats 4000000 in
set_option maxRecDepth 100000 in
theorem tX2_walk_b267 {p : Program} {l : Launch} {e : Env} {s : State} {m : MethodId} {args : Array Value} {below : List Frame} {meth : Method} {c : Code} {G : GT} {kd : Nat → Nat × Nat} {ad : Nat → Nat} (C : Cx p s m args meth c cX2_walk 15 none RX2 G kd ad) {k0 : Nat} {k1 : Nat} (hk0 : kPlaces kd k0) (hk1 : kPart kd k1) {MO : Mem} {vo : Unit} {ih13 : Int32 → Int32 → Int32 → Int32 → Int32 → Int32 → Int32 → Int32 → Mem → Option (Mem × Unit)} (hih13 : ∀ (x3 : Int32) (x5 : Int32) (x6 : Int32) (x7 : Int32) (x8 : Int32) (x9 : Int32) (x10 : Int32) (x11 : Int32) (M : Mem), ih13 x3 x5 x6 x7 x8 x9 x10 x11 M = some (MO, vo) → At p l e (rmO 0 0 0) s m args below meth c 0 0 (MQ below (Qg G kd ad s.heap.size MO none) args s 0 0 (AS kd ad s.heap.size)) G kd ad 15 13 [(0, .ref (ad k0)), (1, .ref (ad k1)), (3, .int x3), (5, .int x5), (6, .int x6), (7, .int x7), (8, .int x8), (9, .int x9), (10, .int x10), (11, .int x11)] [] M) : ∀ (x3 : Int32) (x5 : Int32) (x6 : Int32) (x7 : Int32) (x8 : Int32) (x9 : Int32) (x11 : Int32) (y0 : Int32) (y1 : Int32) (M : Mem), mX2_walk_b267 k0 k1 ih13 x3 x5 x6 x7 x8 x9 x11 y0 y1 M = some (MO, vo) → At p l e (rmO 0 0 0) s m args below meth c 0 0 (MQ below (Qg G kd ad s.heap.size MO none) args s 0 0 (AS kd ad s.heap.size)) G kd ad 15 267 [(0, .ref (ad k0)), (1, .ref (ad k1)), (3, .int x3), (5, .int x5), (6, .int x6), (7, .int x7), (8, .int x8), (9, .int x9), (11, .int x11)] [.int y1, .int y0] M := by
  intro x3 x5 x6 x7 x8 x9 x11 y0 y1 M hf H locs ls hI hl
  obtain ⟨hx, hb, hml, hr, hown, hts, hlk, hK, hap, hsx⟩ := id C
  unfold mX2_walk_b267 at hf
  refine lv_iadd hx hb (dc tbX2_walk_3_k 21 rfl) ?_
  refine lv_iconst (v := 3) hx hb (dc tbX2_walk_3_k 22 rfl) ic_3 ?_
  refine lv_iand hx hb (dc tbX2_walk_3_k 23 rfl) ?_
  obtain ⟨x10_270, e42, hf⟩ := bnd_s hf
  refine lv_ei e42 ?_
  refine lv_istore (lv' := [(10, .int x10_270), (0, .ref (ad k0)), (1, .ref (ad k1)), (3, .int x3), (5, .int x5), (6, .int x6), (7, .int x7), (8, .int x8), (9, .int x9), (11, .int x11)]) hx hb (dc tbX2_walk_3_k 24 rfl) hl (by decide) rfl (fun ls hl => ?_)
  exact tX2_walk_b272 C hk0 hk1 hih13 x3 x5 x6 x7 x8 x9 x10_270 x11 M hf _ _ _ hI (lv_sub hl [1, 2, 3, 4, 5, 6, 7, 8, 0, 9] rfl)
def mX2_walk_b249 (k0 : Nat) (k1 : Nat) (ih13 : Int32 → Int32 → Int32 → Int32 → Int32 → Int32 → Int32 → Int32 → Mem → Option (Mem × Unit)) (x3 : Int32) (x5 : Int32) (x6 : Int32) (x7 : Int32) (x8 : Int32) (x9 : Int32) (x10 : Int32) (x11 : Int32) (y0 : Int32) (M : Mem) : Option (Mem × Unit) := ite2 (y0 = 0) (mX2_walk_b267 k0 k1 ih13 x3 x5 x6 x7 x8 x9 x11 x10 ((4 : Int32) - x5) M) (mX2_walk_b267 k0 k1 ih13 x3 x5 x6 x7 x8 x9 x11 x10 x5 M)
set_option maxHeartbeats 4000000 in
set_option maxRecDepth 100000 in
theorem tX2_walk_b249 {p : Program} {l : Launch} {e : Env} {s : State} {m : MethodId} {args : Array Value} {below : List Frame} {meth : Method} {c : Code} {G : GT} {kd : Nat → Nat × Nat} {ad : Nat → Nat} (C : Cx p s m args meth c cX2_walk 15 none RX2 G kd ad) {k0 : Nat} {k1 : Nat} (hk0 : kPlaces kd k0) (hk1 : kPart kd k1) {MO : Mem} {vo : Unit} {ih13 : Int32 → Int32 → Int32 → Int32 → Int32 → Int32 → Int32 → Int32 → Mem → Option (Mem × Unit)} (hih13 : ∀ (x3 : Int32) (x5 : Int32) (x6 : Int32) (x7 : Int32) (x8 : Int32) (x9 : Int32) (x10 : Int32) (x11 : Int32) (M : Mem), ih13 x3 x5 x6 x7 x8 x9 x10 x11 M = some (MO, vo) → At p l e (rmO 0 0 0) s m args below meth c 0 0 (MQ below (Qg G kd ad s.heap.size MO none) args s 0 0 (AS kd ad s.heap.size)) G kd ad 15 13 [(0, .ref (ad k0)), (1, .ref (ad k1)), (3, .int x3), (5, .int x5), (6, .int x6), (7, .int x7), (8, .int x8), (9, .int x9), (10, .int x10), (11, .int x11)] [] M) : ∀ (x3 : Int32) (x5 : Int32) (x6 : Int32) (x7 : Int32) (x8 : Int32) (x9 : Int32) (x10 : Int32) (x11 : Int32) (y0 : Int32) (M : Mem), mX2_walk_b249 k0 k1 ih13 x3 x5 x6 x7 x8 x9 x10 x11 y0 M = some (MO, vo) → At p l e (rmO 0 0 0) s m args below meth c 0 0 (MQ below (Qg G kd ad s.heap.size MO none) args s 0 0 (AS kd ad s.heap.size)) G kd ad 15 249 [(0, .ref (ad k0)), (1, .ref (ad k1)), (3, .int x3), (5, .int x5), (6, .int x6), (7, .int x7), (8, .int x8), (9, .int x9), (10, .int x10), (11, .int x11)] [.int y0] M := by
  intro x3 x5 x6 x7 x8 x9 x10 x11 y0 M hf H locs ls hI hl
  obtain ⟨hx, hb, hml, hr, hown, hts, hlk, hK, hap, hsx⟩ := id C
  unfold mX2_walk_b249 at hf
  refine lv_istore (lv' := [(14, .int y0), (0, .ref (ad k0)), (1, .ref (ad k1)), (3, .int x3), (5, .int x5), (6, .int x6), (7, .int x7), (8, .int x8), (9, .int x9), (10, .int x10), (11, .int x11)]) hx hb (dc tbX2_walk_3_k 12 rfl) hl (by decide) rfl (fun ls hl => ?_)
  refine lv_iload hx hb (dc tbX2_walk_3_k 13 rfl) (lv_at hl 9 rfl) ?_
  refine lv_iload hx hb (dc tbX2_walk_3_k 14 rfl) (lv_at hl 0 rfl) ?_
  refine lv_if_eq (tgt := 263) hx hb (dc tbX2_walk_3_k 15 rfl) rfl (fun c41 => ?_) (fun c41 => ?_)
  · have hf := ite_t c41 hf
    refine lv_iconst (v := 4) hx hb (dc tbX2_walk_3_k 18 rfl) ic_4 ?_
    refine lv_iload hx hb (dc tbX2_walk_3_k 19 rfl) (lv_at hl 4 rfl) ?_
    refine lv_isub hx hb (dc tbX2_walk_3_k 20 rfl) ?_
    exact tX2_walk_b267 C hk0 hk1 hih13 x3 x5 x6 x7 x8 x9 x11 x10 ((4 : Int32) - x5) M hf _ _ _ hI (lv_sub hl [1, 2, 3, 4, 5, 6, 7, 8, 10] rfl)
  · have hf := ite_f c41 hf
    refine lv_iload hx hb (dc tbX2_walk_3_k 16 rfl) (lv_at hl 4 rfl) ?_
    refine lv_goto (tgt := 267) hx hb (dc tbX2_walk_3_k 17 rfl) rfl ?_
    exact tX2_walk_b267 C hk0 hk1 hih13 x3 x5 x6 x7 x8 x9 x11 x10 x5 M hf _ _ _ hI (lv_sub hl [1, 2, 3, 4, 5, 6, 7, 8, 10] rfl)
def mX2_walk_b217 (k0 : Nat) (k1 : Nat) (ih13 : Int32 → Int32 → Int32 → Int32 → Int32 → Int32 → Int32 → Int32 → Mem → Option (Mem × Unit)) (x3 : Int32) (x5 : Int32) (x6 : Int32) (x7 : Int32) (x8 : Int32) (x9 : Int32) (x10 : Int32) (x11 : Int32) (y0 : Int32) (M : Mem) : Option (Mem × Unit) := ite2 (y0 < 0) (mX2_walk_b272 k0 k1 ih13 x3 x5 x6 x7 x8 x9 x10 x11 M) (ite2 (((x6 >>> (y0 &&& 31)) &&& (1 : Int32)) = 0) (mX2_walk_b272 k0 k1 ih13 x3 x5 x6 x7 x8 x9 x10 x11 M) (ite2 (((x7 >>> (y0 &&& 31)) &&& (1 : Int32)) = 0) (mX2_walk_b249 k0 k1 ih13 x3 x5 x6 x7 x8 x9 x10 x11 (0 : Int32) M) (mX2_walk_b249 k0 k1 ih13 x3 x5 x6 x7 x8 x9 x10 x11 (1 : Int32) M)))
set_option maxHeartbeats 4000000 in
set_option maxRecDepth 100000 in
theorem tX2_walk_b217 {p : Program} {l : Launch} {e : Env} {s : State} {m : MethodId} {args : Array Value} {below : List Frame} {meth : Method} {c : Code} {G : GT} {kd : Nat → Nat × Nat} {ad : Nat → Nat} (C : Cx p s m args meth c cX2_walk 15 none RX2 G kd ad) {k0 : Nat} {k1 : Nat} (hk0 : kPlaces kd k0) (hk1 : kPart kd k1) {MO : Mem} {vo : Unit} {ih13 : Int32 → Int32 → Int32 → Int32 → Int32 → Int32 → Int32 → Int32 → Mem → Option (Mem × Unit)} (hih13 : ∀ (x3 : Int32) (x5 : Int32) (x6 : Int32) (x7 : Int32) (x8 : Int32) (x9 : Int32) (x10 : Int32) (x11 : Int32) (M : Mem), ih13 x3 x5 x6 x7 x8 x9 x10 x11 M = some (MO, vo) → At p l e (rmO 0 0 0) s m args below meth c 0 0 (MQ below (Qg G kd ad s.heap.size MO none) args s 0 0 (AS kd ad s.heap.size)) G kd ad 15 13 [(0, .ref (ad k0)), (1, .ref (ad k1)), (3, .int x3), (5, .int x5), (6, .int x6), (7, .int x7), (8, .int x8), (9, .int x9), (10, .int x10), (11, .int x11)] [] M) : ∀ (x3 : Int32) (x5 : Int32) (x6 : Int32) (x7 : Int32) (x8 : Int32) (x9 : Int32) (x10 : Int32) (x11 : Int32) (y0 : Int32) (M : Mem), mX2_walk_b217 k0 k1 ih13 x3 x5 x6 x7 x8 x9 x10 x11 y0 M = some (MO, vo) → At p l e (rmO 0 0 0) s m args below meth c 0 0 (MQ below (Qg G kd ad s.heap.size MO none) args s 0 0 (AS kd ad s.heap.size)) G kd ad 15 217 [(0, .ref (ad k0)), (1, .ref (ad k1)), (3, .int x3), (5, .int x5), (6, .int x6), (7, .int x7), (8, .int x8), (9, .int x9), (10, .int x10), (11, .int x11)] [.int y0] M := by
  intro x3 x5 x6 x7 x8 x9 x10 x11 y0 M hf H locs ls hI hl
  obtain ⟨hx, hb, hml, hr, hown, hts, hlk, hK, hap, hsx⟩ := id C
  unfold mX2_walk_b217 at hf
  refine lv_istore (lv' := [(13, .int y0), (0, .ref (ad k0)), (1, .ref (ad k1)), (3, .int x3), (5, .int x5), (6, .int x6), (7, .int x7), (8, .int x8), (9, .int x9), (10, .int x10), (11, .int x11)]) hx hb (dc tbX2_walk_2_k 34 rfl) hl (by decide) rfl (fun ls hl => ?_)
  refine lv_iload hx hb (dc tbX2_walk_2_k 35 rfl) (lv_at hl 0 rfl) ?_
  refine lv_if_lt (tgt := 272) hx hb (dc tbX2_walk_2_k 36 rfl) rfl (fun c37 => ?_) (fun c37 => ?_)
  · have hf := ite_t c37 hf
    exact tX2_walk_b272 C hk0 hk1 hih13 x3 x5 x6 x7 x8 x9 x10 x11 M hf _ _ _ hI (lv_sub hl [1, 2, 3, 4, 5, 6, 7, 8, 9, 10] rfl)
  · have hf := ite_f c37 hf
    refine lv_iload hx hb (dc tbX2_walk_2_k 37 rfl) (lv_at hl 5 rfl) ?_
    refine lv_iload hx hb (dc tbX2_walk_2_k 38 rfl) (lv_at hl 0 rfl) ?_
    refine lv_ishr hx hb (dc tbX2_walk_2_k 39 rfl) ?_
    refine lv_iconst (v := 1) hx hb (dc tbX2_walk_3_k 0 rfl) ic_1 ?_
    refine lv_iand hx hb (dc tbX2_walk_3_k 1 rfl) ?_
    refine lv_if_eq (tgt := 272) hx hb (dc tbX2_walk_3_k 2 rfl) rfl (fun c39 => ?_) (fun c39 => ?_)
    · have hf := ite_t c39 hf
      exact tX2_walk_b272 C hk0 hk1 hih13 x3 x5 x6 x7 x8 x9 x10 x11 M hf _ _ _ hI (lv_sub hl [1, 2, 3, 4, 5, 6, 7, 8, 9, 10] rfl)
    · have hf := ite_f c39 hf
      refine lv_iload hx hb (dc tbX2_walk_3_k 3 rfl) (lv_at hl 6 rfl) ?_
      refine lv_iload hx hb (dc tbX2_walk_3_k 4 rfl) (lv_at hl 0 rfl) ?_
      refine lv_ishr hx hb (dc tbX2_walk_3_k 5 rfl) ?_
      refine lv_iconst (v := 1) hx hb (dc tbX2_walk_3_k 6 rfl) ic_1 ?_
      refine lv_iand hx hb (dc tbX2_walk_3_k 7 rfl) ?_
      refine lv_if_eq (tgt := 248) hx hb (dc tbX2_walk_3_k 8 rfl) rfl (fun c40 => ?_) (fun c40 => ?_)
      · have hf := ite_t c40 hf
        refine lv_iconst (v := 0) hx hb (dc tbX2_walk_3_k 11 rfl) ic_0 ?_
        exact tX2_walk_b249 C hk0 hk1 hih13 x3 x5 x6 x7 x8 x9 x10 x11 (0 : Int32) M hf _ _ _ hI (lv_sub hl [1, 2, 3, 4, 5, 6, 7, 8, 9, 10] rfl)
      · have hf := ite_f c40 hf
        refine lv_iconst (v := 1) hx hb (dc tbX2_walk_3_k 9 rfl) ic_1 ?_
        refine lv_goto (tgt := 249) hx hb (dc tbX2_walk_3_k 10 rfl) rfl ?_
        exact tX2_walk_b249 C hk0 hk1 hih13 x3 x5 x6 x7 x8 x9 x10 x11 (1 : Int32) M hf _ _ _ hI (lv_sub hl [1, 2, 3, 4, 5, 6, 7, 8, 9, 10] rfl)
def mX2_walk_b108 (k0 : Nat) (k1 : Nat) (ih13 : Int32 → Int32 → Int32 → Int32 → Int32 → Int32 → Int32 → Int32 → Mem → Option (Mem × Unit)) (x3 : Int32) (x5 : Int32) (x6 : Int32) (x7 : Int32) (x8 : Int32) (x9 : Int32) (x10 : Int32) (x11 : Int32) (y1 : Int32) (y2 : Int32) (y3 : Int32) (M : Mem) : Option (Mem × Unit) := chk (okb y1 9) (bnd (wr M (k0 + 2) (y1).toNatClampNeg (y2 + y3)) (fun M15 => chk (okb x11 9) (chk (okb x11 9) (bnd (wr M15 (k0 + 3) (x11).toNatClampNeg (imin x8 (rd M15 (k0 + 1) (x11).toNatClampNeg))) (fun M19 => chk (okb x11 9) (chk (okb x11 9) (bnd (wr M19 (k0 + 4) (x11).toNatClampNeg (imax x8 (rd M19 (k0 + 1) (x11).toNatClampNeg))) (fun M23 => chk (okb x11 9) (chk (okb x11 9) (bnd (wr M23 (k0 + 5) (x11).toNatClampNeg (imin x9 (rd M23 (k0 + 2) (x11).toNatClampNeg))) (fun M27 => chk (okb x11 9) (chk (okb x11 9) (bnd (wr M27 (k0 + 6) (x11).toNatClampNeg (imax x9 (rd M27 (k0 + 2) (x11).toNatClampNeg))) (fun M31 => chk (okb x11 9) (bnd ((rd M31 (k0 + 1) (x11).toNatClampNeg)) (fun x8_193 => chk (okb x11 9) (bnd ((rd M31 (k0 + 2) (x11).toNatClampNeg)) (fun x9_202 => ite2 (x3 ≤ 0) (mX2_walk_b217 k0 k1 ih13 x3 x5 x6 x7 x8_193 x9_202 x10 x11 (x11 - (1 : Int32)) M31) (mX2_walk_b217 k0 k1 ih13 x3 x5 x6 x7 x8_193 x9_202 x10 x11 x11 M31)))))))))))))))))))
set_option maxHeartbeats 4000000 in
set_option maxRecDepth 100000 in
theorem tX2_walk_b108 {p : Program} {l : Launch} {e : Env} {s : State} {m : MethodId} {args : Array Value} {below : List Frame} {meth : Method} {c : Code} {G : GT} {kd : Nat → Nat × Nat} {ad : Nat → Nat} (C : Cx p s m args meth c cX2_walk 15 none RX2 G kd ad) {k0 : Nat} {k1 : Nat} (hk0 : kPlaces kd k0) (hk1 : kPart kd k1) {MO : Mem} {vo : Unit} {ih13 : Int32 → Int32 → Int32 → Int32 → Int32 → Int32 → Int32 → Int32 → Mem → Option (Mem × Unit)} (hih13 : ∀ (x3 : Int32) (x5 : Int32) (x6 : Int32) (x7 : Int32) (x8 : Int32) (x9 : Int32) (x10 : Int32) (x11 : Int32) (M : Mem), ih13 x3 x5 x6 x7 x8 x9 x10 x11 M = some (MO, vo) → At p l e (rmO 0 0 0) s m args below meth c 0 0 (MQ below (Qg G kd ad s.heap.size MO none) args s 0 0 (AS kd ad s.heap.size)) G kd ad 15 13 [(0, .ref (ad k0)), (1, .ref (ad k1)), (3, .int x3), (5, .int x5), (6, .int x6), (7, .int x7), (8, .int x8), (9, .int x9), (10, .int x10), (11, .int x11)] [] M) : ∀ (x3 : Int32) (x5 : Int32) (x6 : Int32) (x7 : Int32) (x8 : Int32) (x9 : Int32) (x10 : Int32) (x11 : Int32) (y1 : Int32) (y2 : Int32) (y3 : Int32) (M : Mem), mX2_walk_b108 k0 k1 ih13 x3 x5 x6 x7 x8 x9 x10 x11 y1 y2 y3 M = some (MO, vo) → At p l e (rmO 0 0 0) s m args below meth c 0 0 (MQ below (Qg G kd ad s.heap.size MO none) args s 0 0 (AS kd ad s.heap.size)) G kd ad 15 108 [(0, .ref (ad k0)), (1, .ref (ad k1)), (3, .int x3), (5, .int x5), (6, .int x6), (7, .int x7), (8, .int x8), (9, .int x9), (10, .int x10), (11, .int x11)] [.int y3, .int y2, .int y1, .ref (ad (k0 + 2))] M := by
  intro x3 x5 x6 x7 x8 x9 x10 x11 y1 y2 y3 M hf H locs ls hI hl
  obtain ⟨hx, hb, hml, hr, hown, hts, hlk, hK, hap, hsx⟩ := id C
  unfold mX2_walk_b108 at hf
  refine lv_iadd hx hb (dc tbX2_walk_1_k 15 rfl) ?_
  obtain ⟨h13, hf⟩ := chk_s hf
  obtain ⟨M15, e14, hf⟩ := bnd_s hf
  refine g_iast hx hb hK hap hI hk0.2.2.1 (okb_in h13) (dc tbX2_walk_1_k 16 rfl) e14 (fun H locs hI => ?_)
  refine lv_aload_n hx hb (dc tbX2_walk_1_k 17 rfl) rfl (lv_at hl 0 rfl) ?_
  refine gg2_2 hx hb hts hown hK hI hk0.1 q_t1_204 (dc tbX2_walk_1_k 18 rfl) ?_
  refine lv_iload hx hb (dc tbX2_walk_1_k 19 rfl) (lv_at hl 9 rfl) ?_
  refine lv_iload hx hb (dc tbX2_walk_1_k 20 rfl) (lv_at hl 6 rfl) ?_
  refine lv_aload_n hx hb (dc tbX2_walk_1_k 21 rfl) rfl (lv_at hl 0 rfl) ?_
  refine gg2_0 hx hb hts hown hK hI hk0.1 q_t1_200 (dc tbX2_walk_1_k 22 rfl) ?_
  refine lv_iload hx hb (dc tbX2_walk_1_k 23 rfl) (lv_at hl 9 rfl) ?_
  obtain ⟨h16, hf⟩ := chk_s hf
  refine g_iald hx hb hK hI hk0.2.1 (okb_in h16) (dc tbX2_walk_1_k 24 rfl) ?_
  refine va_mmin hx hb (hml.trans hl.1.symm) hown (hts _ q_t2_199) (hts _ q_t2_200) (hts _ q_t1_22) (hts _ q_t2_201) (Nat.le_of_ble_eq_true rfl) (Nat.le_of_ble_eq_true rfl) (Nat.le_of_ble_eq_true rfl) (Nat.le_of_ble_eq_true rfl) (dc tbX2_walk_1_k 25 rfl) ?_
  refine lv_et (show (if _ then _ else _) = (imin x8 (rd M15 (k0 + 1) (x11).toNatClampNeg)) from rfl) ?_
  obtain ⟨h17, hf⟩ := chk_s hf
  obtain ⟨M19, e18, hf⟩ := bnd_s hf
  refine g_iast hx hb hK hap hI hk0.2.2.2.1 (okb_in h17) (dc tbX2_walk_1_k 26 rfl) e18 (fun H locs hI => ?_)
  refine lv_aload_n hx hb (dc tbX2_walk_1_k 27 rfl) rfl (lv_at hl 0 rfl) ?_
  refine gg2_3 hx hb hts hown hK hI hk0.1 q_t1_205 (dc tbX2_walk_1_k 28 rfl) ?_
  refine lv_iload hx hb (dc tbX2_walk_1_k 29 rfl) (lv_at hl 9 rfl) ?_
  refine lv_iload hx hb (dc tbX2_walk_1_k 30 rfl) (lv_at hl 6 rfl) ?_
  refine lv_aload_n hx hb (dc tbX2_walk_1_k 31 rfl) rfl (lv_at hl 0 rfl) ?_
  refine gg2_0 hx hb hts hown hK hI hk0.1 q_t1_200 (dc tbX2_walk_1_k 32 rfl) ?_
  refine lv_iload hx hb (dc tbX2_walk_1_k 33 rfl) (lv_at hl 9 rfl) ?_
  obtain ⟨h20, hf⟩ := chk_s hf
  refine g_iald hx hb hK hI hk0.2.1 (okb_in h20) (dc tbX2_walk_1_k 34 rfl) ?_
  refine va_mmax hx hb (hml.trans hl.1.symm) hown (hts _ q_t2_202) (hts _ q_t2_203) (hts _ q_t1_22) (hts _ q_t2_204) (Nat.le_of_ble_eq_true rfl) (Nat.le_of_ble_eq_true rfl) (Nat.le_of_ble_eq_true rfl) (Nat.le_of_ble_eq_true rfl) (dc tbX2_walk_1_k 35 rfl) ?_
  refine lv_et (show (if _ then _ else _) = (imax x8 (rd M19 (k0 + 1) (x11).toNatClampNeg)) from rfl) ?_
  obtain ⟨h21, hf⟩ := chk_s hf
  obtain ⟨M23, e22, hf⟩ := bnd_s hf
  refine g_iast hx hb hK hap hI hk0.2.2.2.2.1 (okb_in h21) (dc tbX2_walk_1_k 36 rfl) e22 (fun H locs hI => ?_)
  refine lv_aload_n hx hb (dc tbX2_walk_1_k 37 rfl) rfl (lv_at hl 0 rfl) ?_
  refine gg2_4 hx hb hts hown hK hI hk0.1 q_t1_206 (dc tbX2_walk_1_k 38 rfl) ?_
  refine lv_iload hx hb (dc tbX2_walk_1_k 39 rfl) (lv_at hl 9 rfl) ?_
  refine lv_iload hx hb (dc tbX2_walk_2_k 0 rfl) (lv_at hl 7 rfl) ?_
  refine lv_aload_n hx hb (dc tbX2_walk_2_k 1 rfl) rfl (lv_at hl 0 rfl) ?_
  refine gg2_1 hx hb hts hown hK hI hk0.1 q_t1_202 (dc tbX2_walk_2_k 2 rfl) ?_
  refine lv_iload hx hb (dc tbX2_walk_2_k 3 rfl) (lv_at hl 9 rfl) ?_
  obtain ⟨h24, hf⟩ := chk_s hf
  refine g_iald hx hb hK hI hk0.2.2.1 (okb_in h24) (dc tbX2_walk_2_k 4 rfl) ?_
  refine va_mmin hx hb (hml.trans hl.1.symm) hown (hts _ q_t2_199) (hts _ q_t2_200) (hts _ q_t1_22) (hts _ q_t2_201) (Nat.le_of_ble_eq_true rfl) (Nat.le_of_ble_eq_true rfl) (Nat.le_of_ble_eq_true rfl) (Nat.le_of_ble_eq_true rfl) (dc tbX2_walk_2_k 5 rfl) ?_
  refine lv_et (show (if _ then _ else _) = (imin x9 (rd M23 (k0 + 2) (x11).toNatClampNeg)) from rfl) ?_
  obtain ⟨h25, hf⟩ := chk_s hf
  obtain ⟨M27, e26, hf⟩ := bnd_s hf
  refine g_iast hx hb hK hap hI hk0.2.2.2.2.2.1 (okb_in h25) (dc tbX2_walk_2_k 6 rfl) e26 (fun H locs hI => ?_)
  refine lv_aload_n hx hb (dc tbX2_walk_2_k 7 rfl) rfl (lv_at hl 0 rfl) ?_
  refine gg2_5 hx hb hts hown hK hI hk0.1 q_t1_207 (dc tbX2_walk_2_k 8 rfl) ?_
  refine lv_iload hx hb (dc tbX2_walk_2_k 9 rfl) (lv_at hl 9 rfl) ?_
  refine lv_iload hx hb (dc tbX2_walk_2_k 10 rfl) (lv_at hl 7 rfl) ?_
  refine lv_aload_n hx hb (dc tbX2_walk_2_k 11 rfl) rfl (lv_at hl 0 rfl) ?_
  refine gg2_1 hx hb hts hown hK hI hk0.1 q_t1_202 (dc tbX2_walk_2_k 12 rfl) ?_
  refine lv_iload hx hb (dc tbX2_walk_2_k 13 rfl) (lv_at hl 9 rfl) ?_
  obtain ⟨h28, hf⟩ := chk_s hf
  refine g_iald hx hb hK hI hk0.2.2.1 (okb_in h28) (dc tbX2_walk_2_k 14 rfl) ?_
  refine va_mmax hx hb (hml.trans hl.1.symm) hown (hts _ q_t2_202) (hts _ q_t2_203) (hts _ q_t1_22) (hts _ q_t2_204) (Nat.le_of_ble_eq_true rfl) (Nat.le_of_ble_eq_true rfl) (Nat.le_of_ble_eq_true rfl) (Nat.le_of_ble_eq_true rfl) (dc tbX2_walk_2_k 15 rfl) ?_
  refine lv_et (show (if _ then _ else _) = (imax x9 (rd M27 (k0 + 2) (x11).toNatClampNeg)) from rfl) ?_
  obtain ⟨h29, hf⟩ := chk_s hf
  obtain ⟨M31, e30, hf⟩ := bnd_s hf
  refine g_iast hx hb hK hap hI hk0.2.2.2.2.2.2 (okb_in h29) (dc tbX2_walk_2_k 16 rfl) e30 (fun H locs hI => ?_)
  refine lv_aload_n hx hb (dc tbX2_walk_2_k 17 rfl) rfl (lv_at hl 0 rfl) ?_
  refine gg2_0 hx hb hts hown hK hI hk0.1 q_t1_200 (dc tbX2_walk_2_k 18 rfl) ?_
  refine lv_iload hx hb (dc tbX2_walk_2_k 19 rfl) (lv_at hl 9 rfl) ?_
  obtain ⟨h32, hf⟩ := chk_s hf
  refine g_iald hx hb hK hI hk0.2.1 (okb_in h32) (dc tbX2_walk_2_k 20 rfl) ?_
  obtain ⟨x8_193, e33, hf⟩ := bnd_s hf
  refine lv_ei e33 ?_
  refine lv_istore (lv' := [(8, .int x8_193), (0, .ref (ad k0)), (1, .ref (ad k1)), (3, .int x3), (5, .int x5), (6, .int x6), (7, .int x7), (9, .int x9), (10, .int x10), (11, .int x11)]) hx hb (dc tbX2_walk_2_k 21 rfl) hl (by decide) rfl (fun ls hl => ?_)
  refine lv_aload_n hx hb (dc tbX2_walk_2_k 22 rfl) rfl (lv_at hl 1 rfl) ?_
  refine gg2_1 hx hb hts hown hK hI hk0.1 q_t1_202 (dc tbX2_walk_2_k 23 rfl) ?_
  refine lv_iload hx hb (dc tbX2_walk_2_k 24 rfl) (lv_at hl 9 rfl) ?_
  obtain ⟨h34, hf⟩ := chk_s hf
  refine g_iald hx hb hK hI hk0.2.2.1 (okb_in h34) (dc tbX2_walk_2_k 25 rfl) ?_
  obtain ⟨x9_202, e35, hf⟩ := bnd_s hf
  refine lv_ei e35 ?_
  refine lv_istore (lv' := [(9, .int x9_202), (8, .int x8_193), (0, .ref (ad k0)), (1, .ref (ad k1)), (3, .int x3), (5, .int x5), (6, .int x6), (7, .int x7), (10, .int x10), (11, .int x11)]) hx hb (dc tbX2_walk_2_k 26 rfl) hl (by decide) rfl (fun ls hl => ?_)
  refine lv_iload_n hx hb (dc tbX2_walk_2_k 27 rfl) rfl (lv_at hl 4 rfl) ?_
  refine lv_if_le (tgt := 213) hx hb (dc tbX2_walk_2_k 28 rfl) rfl (fun c36 => ?_) (fun c36 => ?_)
  · have hf := ite_t c36 hf
    refine lv_iload hx hb (dc tbX2_walk_2_k 31 rfl) (lv_at hl 9 rfl) ?_
    refine lv_iconst (v := 1) hx hb (dc tbX2_walk_2_k 32 rfl) ic_1 ?_
    refine lv_isub hx hb (dc tbX2_walk_2_k 33 rfl) ?_
    exact tX2_walk_b217 C hk0 hk1 hih13 x3 x5 x6 x7 x8_193 x9_202 x10 x11 (x11 - (1 : Int32)) M31 hf _ _ _ hI (lv_sub hl [2, 3, 4, 5, 6, 7, 1, 0, 8, 9] rfl)
  · have hf := ite_f c36 hf
    refine lv_iload hx hb (dc tbX2_walk_2_k 29 rfl) (lv_at hl 9 rfl) ?_
    refine lv_goto (tgt := 217) hx hb (dc tbX2_walk_2_k 30 rfl) rfl ?_
    exact tX2_walk_b217 C hk0 hk1 hih13 x3 x5 x6 x7 x8_193 x9_202 x10 x11 x11 M31 hf _ _ _ hI (lv_sub hl [2, 3, 4, 5, 6, 7, 1, 0, 8, 9] rfl)
def mX2_walk_b75 (k0 : Nat) (k1 : Nat) (ih13 : Int32 → Int32 → Int32 → Int32 → Int32 → Int32 → Int32 → Int32 → Mem → Option (Mem × Unit)) (x3 : Int32) (x5 : Int32) (x6 : Int32) (x7 : Int32) (x8 : Int32) (x9 : Int32) (x10 : Int32) (x11 : Int32) (x12 : Int32) (y1 : Int32) (y2 : Int32) (y3 : Int32) (M : Mem) : Option (Mem × Unit) := chk (okb y1 9) (bnd (wr M (k0 + 1) (y1).toNatClampNeg (y2 + y3)) (fun M10 => ite2 (x10 = 0) (mX2_walk_b108 k0 k1 ih13 x3 x5 x6 x7 x8 x9 x10 x11 x11 x9 x12 M10) (ite2 (x10 = (2 : Int32)) (mX2_walk_b108 k0 k1 ih13 x3 x5 x6 x7 x8 x9 x10 x11 x11 x9 (-x12) M10) (mX2_walk_b108 k0 k1 ih13 x3 x5 x6 x7 x8 x9 x10 x11 x11 x9 (0 : Int32) M10))))
set_option maxHeartbeats 4000000 in
set_option maxRecDepth 100000 in
theorem tX2_walk_b75 {p : Program} {l : Launch} {e : Env} {s : State} {m : MethodId} {args : Array Value} {below : List Frame} {meth : Method} {c : Code} {G : GT} {kd : Nat → Nat × Nat} {ad : Nat → Nat} (C : Cx p s m args meth c cX2_walk 15 none RX2 G kd ad) {k0 : Nat} {k1 : Nat} (hk0 : kPlaces kd k0) (hk1 : kPart kd k1) {MO : Mem} {vo : Unit} {ih13 : Int32 → Int32 → Int32 → Int32 → Int32 → Int32 → Int32 → Int32 → Mem → Option (Mem × Unit)} (hih13 : ∀ (x3 : Int32) (x5 : Int32) (x6 : Int32) (x7 : Int32) (x8 : Int32) (x9 : Int32) (x10 : Int32) (x11 : Int32) (M : Mem), ih13 x3 x5 x6 x7 x8 x9 x10 x11 M = some (MO, vo) → At p l e (rmO 0 0 0) s m args below meth c 0 0 (MQ below (Qg G kd ad s.heap.size MO none) args s 0 0 (AS kd ad s.heap.size)) G kd ad 15 13 [(0, .ref (ad k0)), (1, .ref (ad k1)), (3, .int x3), (5, .int x5), (6, .int x6), (7, .int x7), (8, .int x8), (9, .int x9), (10, .int x10), (11, .int x11)] [] M) : ∀ (x3 : Int32) (x5 : Int32) (x6 : Int32) (x7 : Int32) (x8 : Int32) (x9 : Int32) (x10 : Int32) (x11 : Int32) (x12 : Int32) (y1 : Int32) (y2 : Int32) (y3 : Int32) (M : Mem), mX2_walk_b75 k0 k1 ih13 x3 x5 x6 x7 x8 x9 x10 x11 x12 y1 y2 y3 M = some (MO, vo) → At p l e (rmO 0 0 0) s m args below meth c 0 0 (MQ below (Qg G kd ad s.heap.size MO none) args s 0 0 (AS kd ad s.heap.size)) G kd ad 15 75 [(0, .ref (ad k0)), (1, .ref (ad k1)), (3, .int x3), (5, .int x5), (6, .int x6), (7, .int x7), (8, .int x8), (9, .int x9), (10, .int x10), (11, .int x11), (12, .int x12)] [.int y3, .int y2, .int y1, .ref (ad (k0 + 1))] M := by
  intro x3 x5 x6 x7 x8 x9 x10 x11 x12 y1 y2 y3 M hf H locs ls hI hl
  obtain ⟨hx, hb, hml, hr, hown, hts, hlk, hK, hap, hsx⟩ := id C
  unfold mX2_walk_b75 at hf
  refine lv_iadd hx hb (dc tbX2_walk_0_k 38 rfl) ?_
  obtain ⟨h8, hf⟩ := chk_s hf
  obtain ⟨M10, e9, hf⟩ := bnd_s hf
  refine g_iast hx hb hK hap hI hk0.2.1 (okb_in h8) (dc tbX2_walk_0_k 39 rfl) e9 (fun H locs hI => ?_)
  refine lv_aload_n hx hb (dc tbX2_walk_1_k 0 rfl) rfl (lv_at hl 0 rfl) ?_
  refine gg2_1 hx hb hts hown hK hI hk0.1 q_t1_202 (dc tbX2_walk_1_k 1 rfl) ?_
  refine lv_iload hx hb (dc tbX2_walk_1_k 2 rfl) (lv_at hl 9 rfl) ?_
  refine lv_iload hx hb (dc tbX2_walk_1_k 3 rfl) (lv_at hl 7 rfl) ?_
  refine lv_iload hx hb (dc tbX2_walk_1_k 4 rfl) (lv_at hl 8 rfl) ?_
  refine lv_if_ne (tgt := 95) hx hb (dc tbX2_walk_1_k 5 rfl) rfl (fun c11 => ?_) (fun c11 => ?_)
  · have hf := ite_f c11 hf
    refine lv_iload hx hb (dc tbX2_walk_1_k 8 rfl) (lv_at hl 8 rfl) ?_
    refine lv_iconst (v := 2) hx hb (dc tbX2_walk_1_k 9 rfl) ic_2 ?_
    refine lv_icmp_ne (tgt := 107) hx hb (dc tbX2_walk_1_k 10 rfl) rfl (fun c12 => ?_) (fun c12 => ?_)
    · have hf := ite_f c12 hf
      refine lv_iconst (v := 0) hx hb (dc tbX2_walk_1_k 14 rfl) ic_0 ?_
      exact tX2_walk_b108 C hk0 hk1 hih13 x3 x5 x6 x7 x8 x9 x10 x11 x11 x9 (0 : Int32) M10 hf _ _ _ hI (lv_sub hl [0, 1, 2, 3, 4, 5, 6, 7, 8, 9] rfl)
    · have hf := ite_t c12 hf
      refine lv_iload hx hb (dc tbX2_walk_1_k 11 rfl) (lv_at hl 10 rfl) ?_
      refine lv_ineg hx hb (dc tbX2_walk_1_k 12 rfl) ?_
      refine lv_goto (tgt := 108) hx hb (dc tbX2_walk_1_k 13 rfl) rfl ?_
      exact tX2_walk_b108 C hk0 hk1 hih13 x3 x5 x6 x7 x8 x9 x10 x11 x11 x9 (-x12) M10 hf _ _ _ hI (lv_sub hl [0, 1, 2, 3, 4, 5, 6, 7, 8, 9] rfl)
  · have hf := ite_t c11 hf
    refine lv_iload hx hb (dc tbX2_walk_1_k 6 rfl) (lv_at hl 10 rfl) ?_
    refine lv_goto (tgt := 108) hx hb (dc tbX2_walk_1_k 7 rfl) rfl ?_
    exact tX2_walk_b108 C hk0 hk1 hih13 x3 x5 x6 x7 x8 x9 x10 x11 x11 x9 x12 M10 hf _ _ _ hI (lv_sub hl [0, 1, 2, 3, 4, 5, 6, 7, 8, 9] rfl)
def mX2_walk_b13 (k0 : Nat) (k1 : Nat) (ih13 : Int32 → Int32 → Int32 → Int32 → Int32 → Int32 → Int32 → Int32 → Mem → Option (Mem × Unit)) (x3 : Int32) (x5 : Int32) (x6 : Int32) (x7 : Int32) (x8 : Int32) (x9 : Int32) (x10 : Int32) (x11 : Int32) (M : Mem) : Option (Mem × Unit) := ite2 (x11 < 0) (some (M, ())) (ite2 ((rd M k0 6) ≤ x11) (some (M, ())) (ite2 ((9 : Int32) ≤ x11) (some (M, ())) (chk (okb x11 9) (bnd ((rd M (k1 + 1) (x11).toNatClampNeg)) (fun x12_41 => ite2 (x10 = (1 : Int32)) (mX2_walk_b75 k0 k1 ih13 x3 x5 x6 x7 x8 x9 x10 x11 x12_41 x11 x8 x12_41 M) (ite2 (x10 = (3 : Int32)) (mX2_walk_b75 k0 k1 ih13 x3 x5 x6 x7 x8 x9 x10 x11 x12_41 x11 x8 (-x12_41) M) (mX2_walk_b75 k0 k1 ih13 x3 x5 x6 x7 x8 x9 x10 x11 x12_41 x11 x8 (0 : Int32) M)))))))
set_option maxHeartbeats 4000000 in
set_option maxRecDepth 100000 in
theorem tX2_walk_b13 {p : Program} {l : Launch} {e : Env} {s : State} {m : MethodId} {args : Array Value} {below : List Frame} {meth : Method} {c : Code} {G : GT} {kd : Nat → Nat × Nat} {ad : Nat → Nat} (C : Cx p s m args meth c cX2_walk 15 none RX2 G kd ad) {k0 : Nat} {k1 : Nat} (hk0 : kPlaces kd k0) (hk1 : kPart kd k1) {MO : Mem} {vo : Unit} {ih13 : Int32 → Int32 → Int32 → Int32 → Int32 → Int32 → Int32 → Int32 → Mem → Option (Mem × Unit)} (hih13 : ∀ (x3 : Int32) (x5 : Int32) (x6 : Int32) (x7 : Int32) (x8 : Int32) (x9 : Int32) (x10 : Int32) (x11 : Int32) (M : Mem), ih13 x3 x5 x6 x7 x8 x9 x10 x11 M = some (MO, vo) → At p l e (rmO 0 0 0) s m args below meth c 0 0 (MQ below (Qg G kd ad s.heap.size MO none) args s 0 0 (AS kd ad s.heap.size)) G kd ad 15 13 [(0, .ref (ad k0)), (1, .ref (ad k1)), (3, .int x3), (5, .int x5), (6, .int x6), (7, .int x7), (8, .int x8), (9, .int x9), (10, .int x10), (11, .int x11)] [] M) : ∀ (x3 : Int32) (x5 : Int32) (x6 : Int32) (x7 : Int32) (x8 : Int32) (x9 : Int32) (x10 : Int32) (x11 : Int32) (M : Mem), mX2_walk_b13 k0 k1 ih13 x3 x5 x6 x7 x8 x9 x10 x11 M = some (MO, vo) → At p l e (rmO 0 0 0) s m args below meth c 0 0 (MQ below (Qg G kd ad s.heap.size MO none) args s 0 0 (AS kd ad s.heap.size)) G kd ad 15 13 [(0, .ref (ad k0)), (1, .ref (ad k1)), (3, .int x3), (5, .int x5), (6, .int x6), (7, .int x7), (8, .int x8), (9, .int x9), (10, .int x10), (11, .int x11)] [] M := by
  intro x3 x5 x6 x7 x8 x9 x10 x11 M hf H locs ls hI hl
  obtain ⟨hx, hb, hml, hr, hown, hts, hlk, hK, hap, hsx⟩ := id C
  unfold mX2_walk_b13 at hf
  refine lv_iload hx hb (dc tbX2_walk_0_k 8 rfl) (lv_at hl 9 rfl) ?_
  refine lv_if_lt (tgt := 281) hx hb (dc tbX2_walk_0_k 9 rfl) rfl (fun c1 => ?_) (fun c1 => ?_)
  · have hf := ite_t c1 hf
    cases hf
    exact g_vret hx hb hr hlk hI (dc tbX2_walk_3_k 30 rfl)
  · have hf := ite_f c1 hf
    refine lv_iload hx hb (dc tbX2_walk_0_k 10 rfl) (lv_at hl 9 rfl) ?_
    refine lv_aload_n hx hb (dc tbX2_walk_0_k 11 rfl) rfl (lv_at hl 0 rfl) ?_
    refine gg2_6 hx hb hts hown hK hI hk0.1 q_t1_208 (dc tbX2_walk_0_k 12 rfl) ?_
    refine lv_icmp_ge (tgt := 281) hx hb (dc tbX2_walk_0_k 13 rfl) rfl (fun c2 => ?_) (fun c2 => ?_)
    · have hf := ite_t c2 hf
      cases hf
      exact g_vret hx hb hr hlk hI (dc tbX2_walk_3_k 30 rfl)
    · have hf := ite_f c2 hf
      refine lv_iload hx hb (dc tbX2_walk_0_k 14 rfl) (lv_at hl 9 rfl) ?_
      refine lv_bipush (v := 9) hx hb (dc tbX2_walk_0_k 15 rfl) bp_9 ?_
      refine lv_icmp_ge (tgt := 281) hx hb (dc tbX2_walk_0_k 16 rfl) rfl (fun c3 => ?_) (fun c3 => ?_)
      · have hf := ite_t c3 hf
        cases hf
        exact g_vret hx hb hr hlk hI (dc tbX2_walk_3_k 30 rfl)
      · have hf := ite_f c3 hf
        refine lv_aload_n hx hb (dc tbX2_walk_0_k 17 rfl) rfl (lv_at hl 1 rfl) ?_
        refine gg1_1 hx hb hts hown hK hI hk1.1 q_t1_106 (dc tbX2_walk_0_k 18 rfl) ?_
        refine lv_iload hx hb (dc tbX2_walk_0_k 19 rfl) (lv_at hl 9 rfl) ?_
        obtain ⟨h4, hf⟩ := chk_s hf
        refine g_iald hx hb hK hI hk1.2.1 (okb_in h4) (dc tbX2_walk_0_k 20 rfl) ?_
        obtain ⟨x12_41, e5, hf⟩ := bnd_s hf
        refine lv_ei e5 ?_
        refine lv_istore (lv' := [(12, .int x12_41), (0, .ref (ad k0)), (1, .ref (ad k1)), (3, .int x3), (5, .int x5), (6, .int x6), (7, .int x7), (8, .int x8), (9, .int x9), (10, .int x10), (11, .int x11)]) hx hb (dc tbX2_walk_0_k 21 rfl) hl (by decide) rfl (fun ls hl => ?_)
        refine lv_aload_n hx hb (dc tbX2_walk_0_k 22 rfl) rfl (lv_at hl 1 rfl) ?_
        refine gg2_0 hx hb hts hown hK hI hk0.1 q_t1_200 (dc tbX2_walk_0_k 23 rfl) ?_
        refine lv_iload hx hb (dc tbX2_walk_0_k 24 rfl) (lv_at hl 10 rfl) ?_
        refine lv_iload hx hb (dc tbX2_walk_0_k 25 rfl) (lv_at hl 7 rfl) ?_
        refine lv_iload hx hb (dc tbX2_walk_0_k 26 rfl) (lv_at hl 9 rfl) ?_
        refine lv_iconst (v := 1) hx hb (dc tbX2_walk_0_k 27 rfl) ic_1 ?_
        refine lv_icmp_ne (tgt := 62) hx hb (dc tbX2_walk_0_k 28 rfl) rfl (fun c6 => ?_) (fun c6 => ?_)
        · have hf := ite_f c6 hf
          refine lv_iload hx hb (dc tbX2_walk_0_k 31 rfl) (lv_at hl 9 rfl) ?_
          refine lv_iconst (v := 3) hx hb (dc tbX2_walk_0_k 32 rfl) ic_3 ?_
          refine lv_icmp_ne (tgt := 74) hx hb (dc tbX2_walk_0_k 33 rfl) rfl (fun c7 => ?_) (fun c7 => ?_)
          · have hf := ite_f c7 hf
            refine lv_iconst (v := 0) hx hb (dc tbX2_walk_0_k 37 rfl) ic_0 ?_
            exact tX2_walk_b75 C hk0 hk1 hih13 x3 x5 x6 x7 x8 x9 x10 x11 x12_41 x11 x8 (0 : Int32) M hf _ _ _ hI (lv_sub hl [1, 2, 3, 4, 5, 6, 7, 8, 9, 10, 0] rfl)
          · have hf := ite_t c7 hf
            refine lv_iload hx hb (dc tbX2_walk_0_k 34 rfl) (lv_at hl 0 rfl) ?_
            refine lv_ineg hx hb (dc tbX2_walk_0_k 35 rfl) ?_
            refine lv_goto (tgt := 75) hx hb (dc tbX2_walk_0_k 36 rfl) rfl ?_
            exact tX2_walk_b75 C hk0 hk1 hih13 x3 x5 x6 x7 x8 x9 x10 x11 x12_41 x11 x8 (-x12_41) M hf _ _ _ hI (lv_sub hl [1, 2, 3, 4, 5, 6, 7, 8, 9, 10, 0] rfl)
        · have hf := ite_t c6 hf
          refine lv_iload hx hb (dc tbX2_walk_0_k 29 rfl) (lv_at hl 0 rfl) ?_
          refine lv_goto (tgt := 75) hx hb (dc tbX2_walk_0_k 30 rfl) rfl ?_
          exact tX2_walk_b75 C hk0 hk1 hih13 x3 x5 x6 x7 x8 x9 x10 x11 x12_41 x11 x8 x12_41 M hf _ _ _ hI (lv_sub hl [1, 2, 3, 4, 5, 6, 7, 8, 9, 10, 0] rfl)
def mX2_walk_l13 (k0 : Nat) (k1 : Nat) : Nat → Int32 → Int32 → Int32 → Int32 → Int32 → Int32 → Int32 → Int32 → Mem → Option (Mem × Unit)
  | 0 => fun _ _ _ _ _ _ _ _ _ => none
  | n + 1 => mX2_walk_b13 k0 k1 (mX2_walk_l13 k0 k1 n)
theorem tX2_walk_l13 {p : Program} {l : Launch} {e : Env} {s : State} {m : MethodId} {args : Array Value} {below : List Frame} {meth : Method} {c : Code} {G : GT} {kd : Nat → Nat × Nat} {ad : Nat → Nat} (C : Cx p s m args meth c cX2_walk 15 none RX2 G kd ad) {k0 : Nat} {k1 : Nat} (hk0 : kPlaces kd k0) (hk1 : kPart kd k1) {MO : Mem} {vo : Unit}   : ∀ (fuel : Nat) (x3 : Int32) (x5 : Int32) (x6 : Int32) (x7 : Int32) (x8 : Int32) (x9 : Int32) (x10 : Int32) (x11 : Int32) (M : Mem), mX2_walk_l13 k0 k1 fuel x3 x5 x6 x7 x8 x9 x10 x11 M = some (MO, vo) → At p l e (rmO 0 0 0) s m args below meth c 0 0 (MQ below (Qg G kd ad s.heap.size MO none) args s 0 0 (AS kd ad s.heap.size)) G kd ad 15 13 [(0, .ref (ad k0)), (1, .ref (ad k1)), (3, .int x3), (5, .int x5), (6, .int x6), (7, .int x7), (8, .int x8), (9, .int x9), (10, .int x10), (11, .int x11)] [] M := by
  intro fuel
  induction fuel with
  | zero => intro x3 x5 x6 x7 x8 x9 x10 x11 M hf; cases hf
  | succ n IH => exact tX2_walk_b13 C hk0 hk1 IH
def mX2_walk (k0 : Nat) (k1 : Nat) (x2 : Int32) (x3 : Int32) (x4 : Int32) (x5 : Int32) (x6 : Int32) (x7 : Int32) (M : Mem) : Option (Mem × Unit) := mX2_walk_l13 k0 k1 5000 x3 x5 x6 x7 (0 : Int32) (0 : Int32) x4 x2 M
set_option maxHeartbeats 4000000 in
set_option maxRecDepth 100000 in
theorem tX2_walk (l : Launch) {G : GT} {kd : Nat → Nat × Nat} {ad : Nat → Nat} {k0 : Nat} {k1 : Nat} (hk0 : kPlaces kd k0) (hk1 : kPart kd k1) {x2 : Int32} {x3 : Int32} {x4 : Int32} {x5 : Int32} {x6 : Int32} {x7 : Int32} {M : Mem} {MO : Mem} {vo : Unit} (hf : mX2_walk k0 k1 x2 x3 x4 x5 x6 x7 M = some (MO, vo)) (n : Nat) : Met l yX2_walk (Cond.code yX2_walk cX2_walk 15 none :: WA) (rmO 0 0 0) (Pg G kd ad n [.ref (ad k0), .ref (ad k1), .int x2, .int x3, .int x4, .int x5, .int x6, .int x7] M) (Qg G kd ad n MO none) 0 0 (AS kd ad n) := by
  refine g_body (own := RX2) (by decide) rfl ?_ (Nat.le_of_ble_eq_true rfl)
  intro p e s m args below meth c C _ H locs ls hI hl
  obtain ⟨hx, hb, hml, hr, hown, hts, hlk, hK, hap, hsx⟩ := id C
  have hl : lv_has ls 15 [(0, .ref (ad k0)), (1, .ref (ad k1)), (2, .int x2), (3, .int x3), (4, .int x4), (5, .int x5), (6, .int x6), (7, .int x7)] := hl
  unfold mX2_walk at hf
  refine lv_iconst (v := 0) hx hb (dc tbX2_walk_0_k 0 rfl) ic_0 ?_
  refine lv_istore (lv' := [(8, .int (0 : Int32)), (0, .ref (ad k0)), (1, .ref (ad k1)), (2, .int x2), (3, .int x3), (4, .int x4), (5, .int x5), (6, .int x6), (7, .int x7)]) hx hb (dc tbX2_walk_0_k 1 rfl) hl (by decide) rfl (fun ls hl => ?_)
  refine lv_iconst (v := 0) hx hb (dc tbX2_walk_0_k 2 rfl) ic_0 ?_
  refine lv_istore (lv' := [(9, .int (0 : Int32)), (8, .int (0 : Int32)), (0, .ref (ad k0)), (1, .ref (ad k1)), (2, .int x2), (3, .int x3), (4, .int x4), (5, .int x5), (6, .int x6), (7, .int x7)]) hx hb (dc tbX2_walk_0_k 3 rfl) hl (by decide) rfl (fun ls hl => ?_)
  refine lv_iload hx hb (dc tbX2_walk_0_k 4 rfl) (lv_at hl 6 rfl) ?_
  refine lv_istore (lv' := [(10, .int x4), (9, .int (0 : Int32)), (8, .int (0 : Int32)), (0, .ref (ad k0)), (1, .ref (ad k1)), (2, .int x2), (3, .int x3), (4, .int x4), (5, .int x5), (6, .int x6), (7, .int x7)]) hx hb (dc tbX2_walk_0_k 5 rfl) hl (by decide) rfl (fun ls hl => ?_)
  refine lv_iload_n hx hb (dc tbX2_walk_0_k 6 rfl) rfl (lv_at hl 5 rfl) ?_
  refine lv_istore (lv' := [(11, .int x2), (10, .int x4), (9, .int (0 : Int32)), (8, .int (0 : Int32)), (0, .ref (ad k0)), (1, .ref (ad k1)), (2, .int x2), (3, .int x3), (4, .int x4), (5, .int x5), (6, .int x6), (7, .int x7)]) hx hb (dc tbX2_walk_0_k 7 rfl) hl (by decide) rfl (fun ls hl => ?_)
  exact tX2_walk_l13 C hk0 hk1 5000 x3 x5 x6 x7 (0 : Int32) (0 : Int32) x4 x2 M hf _ _ _ hI (lv_sub hl [4, 5, 7, 9, 10, 11, 3, 2, 1, 0] rfl)
theorem cv_X2_walk : cvF RX2 yX2_walk cX2_walk 15 none 7 := ⟨q_t2_197, q_s1_3, q_t1_5, q_t2_198, by decide +kernel⟩
def mX2_layFinished (k0 : Nat) (k1 : Nat) (M : Mem) : Option (Mem × Unit) := bnd (wr M k0 6 (rd M k1 0)) (fun M1 => cap (mX1_allBends k1 M1) (fun r4 => cal (mX2_walk k0 k1 (0 : Int32) (1 : Int32) (1 : Int32) (3 : Int32) r4 (rd M1 k1 2) M1) (fun M8 _ => some (M8, ()))))
set_option maxHeartbeats 4000000 in
set_option maxRecDepth 100000 in
theorem tX2_layFinished (l : Launch) {G : GT} {kd : Nat → Nat × Nat} {ad : Nat → Nat} {k0 : Nat} {k1 : Nat} (hk0 : kPlaces kd k0) (hk1 : kPart kd k1) {M : Mem} {MO : Mem} {vo : Unit} (hf : mX2_layFinished k0 k1 M = some (MO, vo)) (n : Nat) : Met l yX2_layFinished (Cond.code yX2_layFinished cX2_layFinished 2 none :: WA) (rmO 2 0 0) (Pg G kd ad n [.ref (ad k0), .ref (ad k1)] M) (Qg G kd ad n MO none) 0 0 (AS kd ad n) := by
  refine g_body (own := RX2) (by decide) rfl ?_ (Nat.le_of_ble_eq_true rfl)
  intro p e s m args below meth c C _ H locs ls hI hl
  obtain ⟨hx, hb, hml, hr, hown, hts, hlk, hK, hap, hsx⟩ := id C
  have hl : lv_has ls 2 [(0, .ref (ad k0)), (1, .ref (ad k1))] := hl
  unfold mX2_layFinished at hf
  refine lv_aload_n hx hb (dc tbX2_layFinished_k 0 rfl) rfl (lv_at hl 0 rfl) ?_
  refine lv_aload_n hx hb (dc tbX2_layFinished_k 1 rfl) rfl (lv_at hl 1 rfl) ?_
  refine gg1_0 hx hb hts hown hK hI hk1.1 q_t1_102 (dc tbX2_layFinished_k 2 rfl) ?_
  obtain ⟨M1, e2, hf⟩ := bnd_s hf
  refine gp2_6 hx hb hts hown hK hap hI hk0.1 q_t1_208 (dc tbX2_layFinished_k 3 rfl) e2 (fun H locs hI => ?_)
  refine lv_aload_n hx hb (dc tbX2_layFinished_k 4 rfl) rfl (lv_at hl 0 rfl) ?_
  refine lv_aload_n hx hb (dc tbX2_layFinished_k 5 rfl) rfl (lv_at hl 1 rfl) ?_
  refine lv_iconst (v := 0) hx hb (dc tbX2_layFinished_k 6 rfl) ic_0 ?_
  refine lv_iconst (v := 1) hx hb (dc tbX2_layFinished_k 7 rfl) ic_1 ?_
  refine lv_iconst (v := 1) hx hb (dc tbX2_layFinished_k 8 rfl) ic_1 ?_
  refine lv_iconst (v := 3) hx hb (dc tbX2_layFinished_k 9 rfl) ic_3 ?_
  refine lv_aload_n hx hb (dc tbX2_layFinished_k 10 rfl) rfl (lv_at hl 1 rfl) ?_
  obtain ⟨r4, q3, hf⟩ := cap_s hf
  refine g_callVi hx hb hml hown hts hK hap hsx hI (tX1_allBends l hk1 q3 H.size) cv_X1_allBends q_t2_190 rfl rfl ⟨Nat.le_of_ble_eq_true rfl, Nat.le_of_ble_eq_true rfl⟩ hk1.1 (by simp) rfl rfl rfl hl.1 rfl (Nat.le_of_ble_eq_true rfl) (dc tbX2_layFinished_k 11 rfl) ⟨Nat.le_of_ble_eq_true rfl, Nat.le_of_ble_eq_true rfl⟩ (fun H locs hI => ?_)
  refine lv_aload_n hx hb (dc tbX2_layFinished_k 12 rfl) rfl (lv_at hl 1 rfl) ?_
  refine gg1_2 hx hb hts hown hK hI hk1.1 q_t1_109 (dc tbX2_layFinished_k 13 rfl) ?_
  obtain ⟨M8, r7, q6, hf⟩ := cal_s hf
  refine g_callVv hx hb hml hown hts hK hap hsx hI (tX2_walk l hk0 hk1 q6 H.size) cv_X2_walk q_t2_195 rfl rfl ⟨Nat.le_of_ble_eq_true rfl, Nat.le_of_ble_eq_true rfl⟩ hk0.1 (by simp) rfl rfl rfl hl.1 rfl (Nat.le_of_ble_eq_true rfl) (dc tbX2_layFinished_k 14 rfl) ⟨Nat.le_of_ble_eq_true rfl, Nat.le_of_ble_eq_true rfl⟩ (fun H locs hI => ?_)
  cases hf
  exact g_vret hx hb hr hlk hI (dc tbX2_layFinished_k 15 rfl)
theorem cv_X2_layFinished : cvF RX2 yX2_layFinished cX2_layFinished 2 none 1 := ⟨q_t2_187, q_t2_188, q_t1_5, q_t2_189, by decide +kernel⟩
def mX2_layStep_b27 (k0 : Nat) (k1 : Nat) (x2 : Int32) (x3 : Int32) (x4 : Int32) (y0 : Int32) (M : Mem) : Option (Mem × Unit) := bnd (wr M k0 6 (rd M k1 0)) (fun M6 => ite2 ((x3 &&& (1 : Int32)) = 0) (bnd (wr M6 k0 7 (0 : Int32)) (fun M19 => bnd (wr M19 k0 8 x4) (fun M21 => cal (mX2_walk k0 k1 x4 (-1 : Int32) (3 : Int32) (1 : Int32) x2 y0 M21) (fun M25 _ => cal (mX2_walk k0 k1 (x4 + (1 : Int32)) (1 : Int32) (0 : Int32) (3 : Int32) x2 y0 M25) (fun M28 _ => some (M28, ())))))) (bnd (wr M6 k0 7 (x4 + (1 : Int32))) (fun M9 => bnd (wr M9 k0 8 ((rd M9 k0 6) - (1 : Int32))) (fun M11 => cal (mX2_walk k0 k1 (x4 + (1 : Int32)) (1 : Int32) (3 : Int32) (1 : Int32) x2 y0 M11) (fun M15 _ => cal (mX2_walk k0 k1 x4 (-1 : Int32) (0 : Int32) (3 : Int32) x2 y0 M15) (fun M18 _ => some (M18, ())))))))
set_option maxHeartbeats 4000000 in
set_option maxRecDepth 100000 in
theorem tX2_layStep_b27 {p : Program} {l : Launch} {e : Env} {s : State} {m : MethodId} {args : Array Value} {below : List Frame} {meth : Method} {c : Code} {G : GT} {kd : Nat → Nat × Nat} {ad : Nat → Nat} (C : Cx p s m args meth c cX2_layStep 6 none RX2 G kd ad) {k0 : Nat} {k1 : Nat} (hk0 : kPlaces kd k0) (hk1 : kPart kd k1) {MO : Mem} {vo : Unit}   : ∀ (x2 : Int32) (x3 : Int32) (x4 : Int32) (y0 : Int32) (M : Mem), mX2_layStep_b27 k0 k1 x2 x3 x4 y0 M = some (MO, vo) → At p l e (rmO 1 0 0) s m args below meth c 0 0 (MQ below (Qg G kd ad s.heap.size MO none) args s 0 0 (AS kd ad s.heap.size)) G kd ad 6 27 [(0, .ref (ad k0)), (1, .ref (ad k1)), (2, .int x2), (3, .int x3), (4, .int x4)] [.int y0] M := by
  intro x2 x3 x4 y0 M hf H locs ls hI hl
  obtain ⟨hx, hb, hml, hr, hown, hts, hlk, hK, hap, hsx⟩ := id C
  unfold mX2_layStep_b27 at hf
  refine lv_istore (lv' := [(5, .int y0), (0, .ref (ad k0)), (1, .ref (ad k1)), (2, .int x2), (3, .int x3), (4, .int x4)]) hx hb (dc tbX2_layStep_0_k 15 rfl) hl (by decide) rfl (fun ls hl => ?_)
  refine lv_aload_n hx hb (dc tbX2_layStep_0_k 16 rfl) rfl (lv_at hl 1 rfl) ?_
  refine lv_aload_n hx hb (dc tbX2_layStep_0_k 17 rfl) rfl (lv_at hl 2 rfl) ?_
  refine gg1_0 hx hb hts hown hK hI hk1.1 q_t1_102 (dc tbX2_layStep_0_k 18 rfl) ?_
  obtain ⟨M6, e7, hf⟩ := bnd_s hf
  refine gp2_6 hx hb hts hown hK hap hI hk0.1 q_t1_208 (dc tbX2_layStep_0_k 19 rfl) e7 (fun H locs hI => ?_)
  refine lv_iload_n hx hb (dc tbX2_layStep_0_k 20 rfl) rfl (lv_at hl 4 rfl) ?_
  refine lv_iconst (v := 1) hx hb (dc tbX2_layStep_0_k 21 rfl) ic_1 ?_
  refine lv_iand hx hb (dc tbX2_layStep_0_k 22 rfl) ?_
  refine lv_if_ne (tgt := 85) hx hb (dc tbX2_layStep_0_k 23 rfl) rfl (fun c8 => ?_) (fun c8 => ?_)
  · have hf := ite_f c8 hf
    refine lv_aload_n hx hb (dc tbX2_layStep_1_k 11 rfl) rfl (lv_at hl 1 rfl) ?_
    refine lv_iload hx hb (dc tbX2_layStep_1_k 12 rfl) (lv_at hl 5 rfl) ?_
    refine lv_iconst (v := 1) hx hb (dc tbX2_layStep_1_k 13 rfl) ic_1 ?_
    refine lv_iadd hx hb (dc tbX2_layStep_1_k 14 rfl) ?_
    obtain ⟨M9, e10, hf⟩ := bnd_s hf
    refine gp2_7 hx hb hts hown hK hap hI hk0.1 q_t1_209 (dc tbX2_layStep_1_k 15 rfl) e10 (fun H locs hI => ?_)
    refine lv_aload_n hx hb (dc tbX2_layStep_1_k 16 rfl) rfl (lv_at hl 1 rfl) ?_
    refine lv_aload_n hx hb (dc tbX2_layStep_1_k 17 rfl) rfl (lv_at hl 1 rfl) ?_
    refine gg2_6 hx hb hts hown hK hI hk0.1 q_t1_208 (dc tbX2_layStep_1_k 18 rfl) ?_
    refine lv_iconst (v := 1) hx hb (dc tbX2_layStep_1_k 19 rfl) ic_1 ?_
    refine lv_isub hx hb (dc tbX2_layStep_1_k 20 rfl) ?_
    obtain ⟨M11, e12, hf⟩ := bnd_s hf
    refine gp2_8 hx hb hts hown hK hap hI hk0.1 q_t1_210 (dc tbX2_layStep_1_k 21 rfl) e12 (fun H locs hI => ?_)
    refine lv_aload_n hx hb (dc tbX2_layStep_1_k 22 rfl) rfl (lv_at hl 1 rfl) ?_
    refine lv_aload_n hx hb (dc tbX2_layStep_1_k 23 rfl) rfl (lv_at hl 2 rfl) ?_
    refine lv_iload hx hb (dc tbX2_layStep_1_k 24 rfl) (lv_at hl 5 rfl) ?_
    refine lv_iconst (v := 1) hx hb (dc tbX2_layStep_1_k 25 rfl) ic_1 ?_
    refine lv_iadd hx hb (dc tbX2_layStep_1_k 26 rfl) ?_
    refine lv_iconst (v := 1) hx hb (dc tbX2_layStep_1_k 27 rfl) ic_1 ?_
    refine lv_iconst (v := 3) hx hb (dc tbX2_layStep_1_k 28 rfl) ic_3 ?_
    refine lv_iconst (v := 1) hx hb (dc tbX2_layStep_1_k 29 rfl) ic_1 ?_
    refine lv_iload_n hx hb (dc tbX2_layStep_1_k 30 rfl) rfl (lv_at hl 3 rfl) ?_
    refine lv_iload hx hb (dc tbX2_layStep_1_k 31 rfl) (lv_at hl 0 rfl) ?_
    obtain ⟨M15, r14, q13, hf⟩ := cal_s hf
    refine g_callVv hx hb hml hown hts hK hap hsx hI (tX2_walk l hk0 hk1 q13 H.size) cv_X2_walk q_t2_195 rfl rfl ⟨Nat.le_of_ble_eq_true rfl, Nat.le_of_ble_eq_true rfl⟩ hk0.1 (by simp) rfl rfl rfl hl.1 rfl (Nat.le_of_ble_eq_true rfl) (dc tbX2_layStep_1_k 32 rfl) ⟨Nat.le_of_ble_eq_true rfl, Nat.le_of_ble_eq_true rfl⟩ (fun H locs hI => ?_)
    refine lv_aload_n hx hb (dc tbX2_layStep_1_k 33 rfl) rfl (lv_at hl 1 rfl) ?_
    refine lv_aload_n hx hb (dc tbX2_layStep_1_k 34 rfl) rfl (lv_at hl 2 rfl) ?_
    refine lv_iload hx hb (dc tbX2_layStep_1_k 35 rfl) (lv_at hl 5 rfl) ?_
    refine lv_iconst (v := -1) hx hb (dc tbX2_layStep_1_k 36 rfl) ic_m1 ?_
    refine lv_iconst (v := 0) hx hb (dc tbX2_layStep_1_k 37 rfl) ic_0 ?_
    refine lv_iconst (v := 3) hx hb (dc tbX2_layStep_1_k 38 rfl) ic_3 ?_
    refine lv_iload_n hx hb (dc tbX2_layStep_1_k 39 rfl) rfl (lv_at hl 3 rfl) ?_
    refine lv_iload hx hb (dc tbX2_layStep_2_k 0 rfl) (lv_at hl 0 rfl) ?_
    obtain ⟨M18, r17, q16, hf⟩ := cal_s hf
    refine g_callVv hx hb hml hown hts hK hap hsx hI (tX2_walk l hk0 hk1 q16 H.size) cv_X2_walk q_t2_195 rfl rfl ⟨Nat.le_of_ble_eq_true rfl, Nat.le_of_ble_eq_true rfl⟩ hk0.1 (by simp) rfl rfl rfl hl.1 rfl (Nat.le_of_ble_eq_true rfl) (dc tbX2_layStep_2_k 1 rfl) ⟨Nat.le_of_ble_eq_true rfl, Nat.le_of_ble_eq_true rfl⟩ (fun H locs hI => ?_)
    cases hf
    exact g_vret hx hb hr hlk hI (dc tbX2_layStep_2_k 2 rfl)
  · have hf := ite_t c8 hf
    refine lv_aload_n hx hb (dc tbX2_layStep_0_k 24 rfl) rfl (lv_at hl 1 rfl) ?_
    refine lv_iconst (v := 0) hx hb (dc tbX2_layStep_0_k 25 rfl) ic_0 ?_
    obtain ⟨M19, e20, hf⟩ := bnd_s hf
    refine gp2_7 hx hb hts hown hK hap hI hk0.1 q_t1_209 (dc tbX2_layStep_0_k 26 rfl) e20 (fun H locs hI => ?_)
    refine lv_aload_n hx hb (dc tbX2_layStep_0_k 27 rfl) rfl (lv_at hl 1 rfl) ?_
    refine lv_iload hx hb (dc tbX2_layStep_0_k 28 rfl) (lv_at hl 5 rfl) ?_
    obtain ⟨M21, e22, hf⟩ := bnd_s hf
    refine gp2_8 hx hb hts hown hK hap hI hk0.1 q_t1_210 (dc tbX2_layStep_0_k 29 rfl) e22 (fun H locs hI => ?_)
    refine lv_aload_n hx hb (dc tbX2_layStep_0_k 30 rfl) rfl (lv_at hl 1 rfl) ?_
    refine lv_aload_n hx hb (dc tbX2_layStep_0_k 31 rfl) rfl (lv_at hl 2 rfl) ?_
    refine lv_iload hx hb (dc tbX2_layStep_0_k 32 rfl) (lv_at hl 5 rfl) ?_
    refine lv_iconst (v := -1) hx hb (dc tbX2_layStep_0_k 33 rfl) ic_m1 ?_
    refine lv_iconst (v := 3) hx hb (dc tbX2_layStep_0_k 34 rfl) ic_3 ?_
    refine lv_iconst (v := 1) hx hb (dc tbX2_layStep_0_k 35 rfl) ic_1 ?_
    refine lv_iload_n hx hb (dc tbX2_layStep_0_k 36 rfl) rfl (lv_at hl 3 rfl) ?_
    refine lv_iload hx hb (dc tbX2_layStep_0_k 37 rfl) (lv_at hl 0 rfl) ?_
    obtain ⟨M25, r24, q23, hf⟩ := cal_s hf
    refine g_callVv hx hb hml hown hts hK hap hsx hI (tX2_walk l hk0 hk1 q23 H.size) cv_X2_walk q_t2_195 rfl rfl ⟨Nat.le_of_ble_eq_true rfl, Nat.le_of_ble_eq_true rfl⟩ hk0.1 (by simp) rfl rfl rfl hl.1 rfl (Nat.le_of_ble_eq_true rfl) (dc tbX2_layStep_0_k 38 rfl) ⟨Nat.le_of_ble_eq_true rfl, Nat.le_of_ble_eq_true rfl⟩ (fun H locs hI => ?_)
    refine lv_aload_n hx hb (dc tbX2_layStep_0_k 39 rfl) rfl (lv_at hl 1 rfl) ?_
    refine lv_aload_n hx hb (dc tbX2_layStep_1_k 0 rfl) rfl (lv_at hl 2 rfl) ?_
    refine lv_iload hx hb (dc tbX2_layStep_1_k 1 rfl) (lv_at hl 5 rfl) ?_
    refine lv_iconst (v := 1) hx hb (dc tbX2_layStep_1_k 2 rfl) ic_1 ?_
    refine lv_iadd hx hb (dc tbX2_layStep_1_k 3 rfl) ?_
    refine lv_iconst (v := 1) hx hb (dc tbX2_layStep_1_k 4 rfl) ic_1 ?_
    refine lv_iconst (v := 0) hx hb (dc tbX2_layStep_1_k 5 rfl) ic_0 ?_
    refine lv_iconst (v := 3) hx hb (dc tbX2_layStep_1_k 6 rfl) ic_3 ?_
    refine lv_iload_n hx hb (dc tbX2_layStep_1_k 7 rfl) rfl (lv_at hl 3 rfl) ?_
    refine lv_iload hx hb (dc tbX2_layStep_1_k 8 rfl) (lv_at hl 0 rfl) ?_
    obtain ⟨M28, r27, q26, hf⟩ := cal_s hf
    refine g_callVv hx hb hml hown hts hK hap hsx hI (tX2_walk l hk0 hk1 q26 H.size) cv_X2_walk q_t2_195 rfl rfl ⟨Nat.le_of_ble_eq_true rfl, Nat.le_of_ble_eq_true rfl⟩ hk0.1 (by simp) rfl rfl rfl hl.1 rfl (Nat.le_of_ble_eq_true rfl) (dc tbX2_layStep_1_k 9 rfl) ⟨Nat.le_of_ble_eq_true rfl, Nat.le_of_ble_eq_true rfl⟩ (fun H locs hI => ?_)
    refine lv_goto (tgt := 131) hx hb (dc tbX2_layStep_1_k 10 rfl) rfl ?_
    cases hf
    exact g_vret hx hb hr hlk hI (dc tbX2_layStep_2_k 2 rfl)
def mX2_layStep (k0 : Nat) (k1 : Nat) (x2 : Int32) (x3 : Int32) (M : Mem) : Option (Mem × Unit) := bnd ((x3 >>> ((1 : Int32) &&& 31))) (fun x4_3 => cap (mX1_goesUp k1 x4_3 M) (fun r3 => ite2 (r3 = 0) (mX2_layStep_b27 k0 k1 x2 x3 x4_3 ((rd M k1 2) ^^^ (-1 : Int32)) M) (mX2_layStep_b27 k0 k1 x2 x3 x4_3 (rd M k1 2) M)))
set_option maxHeartbeats 4000000 in
set_option maxRecDepth 100000 in
theorem tX2_layStep (l : Launch) {G : GT} {kd : Nat → Nat × Nat} {ad : Nat → Nat} {k0 : Nat} {k1 : Nat} (hk0 : kPlaces kd k0) (hk1 : kPart kd k1) {x2 : Int32} {x3 : Int32} {M : Mem} {MO : Mem} {vo : Unit} (hf : mX2_layStep k0 k1 x2 x3 M = some (MO, vo)) (n : Nat) : Met l yX2_layStep (Cond.code yX2_layStep cX2_layStep 6 none :: WA) (rmO 1 0 0) (Pg G kd ad n [.ref (ad k0), .ref (ad k1), .int x2, .int x3] M) (Qg G kd ad n MO none) 0 0 (AS kd ad n) := by
  refine g_body (own := RX2) (by decide) rfl ?_ (Nat.le_of_ble_eq_true rfl)
  intro p e s m args below meth c C _ H locs ls hI hl
  obtain ⟨hx, hb, hml, hr, hown, hts, hlk, hK, hap, hsx⟩ := id C
  have hl : lv_has ls 6 [(0, .ref (ad k0)), (1, .ref (ad k1)), (2, .int x2), (3, .int x3)] := hl
  unfold mX2_layStep at hf
  refine lv_iload_n hx hb (dc tbX2_layStep_0_k 0 rfl) rfl (lv_at hl 3 rfl) ?_
  refine lv_iconst (v := 1) hx hb (dc tbX2_layStep_0_k 1 rfl) ic_1 ?_
  refine lv_ishr hx hb (dc tbX2_layStep_0_k 2 rfl) ?_
  obtain ⟨x4_3, e1, hf⟩ := bnd_s hf
  refine lv_ei e1 ?_
  refine lv_istore (lv' := [(4, .int x4_3), (0, .ref (ad k0)), (1, .ref (ad k1)), (2, .int x2), (3, .int x3)]) hx hb (dc tbX2_layStep_0_k 3 rfl) hl (by decide) rfl (fun ls hl => ?_)
  refine lv_aload_n hx hb (dc tbX2_layStep_0_k 4 rfl) rfl (lv_at hl 2 rfl) ?_
  refine lv_iload hx hb (dc tbX2_layStep_0_k 5 rfl) (lv_at hl 0 rfl) ?_
  obtain ⟨r3, q2, hf⟩ := cap_s hf
  refine g_callVi hx hb hml hown hts hK hap hsx hI (tX1_goesUp l hk1 q2 H.size) cv_X1_goesUp q_t3_33 rfl rfl ⟨Nat.le_of_ble_eq_true rfl, Nat.le_of_ble_eq_true rfl⟩ hk1.1 (by simp) rfl rfl rfl hl.1 rfl (Nat.le_of_ble_eq_true rfl) (dc tbX2_layStep_0_k 6 rfl) ⟨Nat.le_of_ble_eq_true rfl, Nat.le_of_ble_eq_true rfl⟩ (fun H locs hI => ?_)
  refine lv_if_eq (tgt := 21) hx hb (dc tbX2_layStep_0_k 7 rfl) rfl (fun c5 => ?_) (fun c5 => ?_)
  · have hf := ite_t c5 hf
    refine lv_aload_n hx hb (dc tbX2_layStep_0_k 11 rfl) rfl (lv_at hl 2 rfl) ?_
    refine gg1_2 hx hb hts hown hK hI hk1.1 q_t1_109 (dc tbX2_layStep_0_k 12 rfl) ?_
    refine lv_iconst (v := -1) hx hb (dc tbX2_layStep_0_k 13 rfl) ic_m1 ?_
    refine lv_ixor hx hb (dc tbX2_layStep_0_k 14 rfl) ?_
    exact tX2_layStep_b27 C hk0 hk1 x2 x3 x4_3 ((rd M k1 2) ^^^ (-1 : Int32)) M hf _ _ _ hI (lv_sub hl [1, 2, 3, 4, 0] rfl)
  · have hf := ite_f c5 hf
    refine lv_aload_n hx hb (dc tbX2_layStep_0_k 8 rfl) rfl (lv_at hl 2 rfl) ?_
    refine gg1_2 hx hb hts hown hK hI hk1.1 q_t1_109 (dc tbX2_layStep_0_k 9 rfl) ?_
    refine lv_goto (tgt := 27) hx hb (dc tbX2_layStep_0_k 10 rfl) rfl ?_
    exact tX2_layStep_b27 C hk0 hk1 x2 x3 x4_3 (rd M k1 2) M hf _ _ _ hI (lv_sub hl [1, 2, 3, 4, 0] rfl)
theorem cv_X2_layStep : cvF RX2 yX2_layStep cX2_layStep 6 none 3 := ⟨q_t3_30, q_t3_31, q_t1_5, q_t3_32, by decide +kernel⟩
def mX2_isClamped (k0 : Nat) (x1 : Int32) (M : Mem) : Option Int32 := ite2 (x1 < (rd M k0 7)) (some (0 : Int32)) (ite2 ((rd M k0 8) < x1) (some (0 : Int32)) (some (1 : Int32)))
set_option maxHeartbeats 4000000 in
set_option maxRecDepth 100000 in
theorem tX2_isClamped (l : Launch) {G : GT} {kd : Nat → Nat × Nat} {ad : Nat → Nat} {k0 : Nat} (hk0 : kPlaces kd k0) {x1 : Int32} {M : Mem} {vo : Int32} (hf : mX2_isClamped k0 x1 M = some vo) (n : Nat) : Met l yX2_isClamped (Cond.code yX2_isClamped cX2_isClamped 2 (some .boolean) :: WA) (rmO 0 0 0) (Pg G kd ad n [.ref (ad k0), .int x1] M) (Qg G kd ad n M (some (.int vo))) 0 0 (AS kd ad n) := by
  refine g_body (own := RX2) (by decide) rfl ?_ (Nat.le_of_ble_eq_true rfl)
  intro p e s m args below meth c C _ H locs ls hI hl
  obtain ⟨hx, hb, hml, hr, hown, hts, hlk, hK, hap, hsx⟩ := id C
  have hl : lv_has ls 2 [(0, .ref (ad k0)), (1, .int x1)] := hl
  unfold mX2_isClamped at hf
  refine lv_iload_n hx hb (dc tbX2_isClamped_k 0 rfl) rfl (lv_at hl 1 rfl) ?_
  refine lv_aload_n hx hb (dc tbX2_isClamped_k 1 rfl) rfl (lv_at hl 0 rfl) ?_
  refine gg2_7 hx hb hts hown hK hI hk0.1 q_t1_209 (dc tbX2_isClamped_k 2 rfl) ?_
  refine lv_icmp_lt (tgt := 20) hx hb (dc tbX2_isClamped_k 3 rfl) rfl (fun c1 => ?_) (fun c1 => ?_)
  · have hf := ite_t c1 hf
    refine lv_iconst (v := 0) hx hb (dc tbX2_isClamped_k 10 rfl) ic_0 ?_
    cases hf
    exact g_zret hx hb hr hlk hI rfl (dc tbX2_isClamped_k 11 rfl)
  · have hf := ite_f c1 hf
    refine lv_iload_n hx hb (dc tbX2_isClamped_k 4 rfl) rfl (lv_at hl 1 rfl) ?_
    refine lv_aload_n hx hb (dc tbX2_isClamped_k 5 rfl) rfl (lv_at hl 0 rfl) ?_
    refine gg2_8 hx hb hts hown hK hI hk0.1 q_t1_210 (dc tbX2_isClamped_k 6 rfl) ?_
    refine lv_icmp_gt (tgt := 20) hx hb (dc tbX2_isClamped_k 7 rfl) rfl (fun c2 => ?_) (fun c2 => ?_)
    · have hf := ite_t c2 hf
      refine lv_iconst (v := 0) hx hb (dc tbX2_isClamped_k 10 rfl) ic_0 ?_
      cases hf
      exact g_zret hx hb hr hlk hI rfl (dc tbX2_isClamped_k 11 rfl)
    · have hf := ite_f c2 hf
      refine lv_iconst (v := 1) hx hb (dc tbX2_isClamped_k 8 rfl) ic_1 ?_
      refine lv_goto (tgt := 21) hx hb (dc tbX2_isClamped_k 9 rfl) rfl ?_
      cases hf
      exact g_zret hx hb hr hlk hI rfl (dc tbX2_isClamped_k 11 rfl)
theorem cv_X2_isClamped : cvF RX2 yX2_isClamped cX2_isClamped 2 (some .boolean) 1 := ⟨q_t3_40, q_s1_5, q_t1_5, q_t3_41, by decide +kernel⟩
def mX2_reachToBack_b38 (k0 : Nat) (M : Mem) (ih4 : Int32 → Int32 → Option Int32) (x1 : Int32) (x2 : Int32) : Option Int32 := bnd (x2 + (1 : Int32)) (fun x2_38 => ih4 x1 x2_38)
set_option maxHeartbeats 4000000 in
set_option maxRecDepth 100000 in
theorem tX2_reachToBack_b38 {p : Program} {l : Launch} {e : Env} {s : State} {m : MethodId} {args : Array Value} {below : List Frame} {meth : Method} {c : Code} {G : GT} {kd : Nat → Nat × Nat} {ad : Nat → Nat} (C : Cx p s m args meth c cX2_reachToBack 3 (some .int) RX2 G kd ad) {k0 : Nat} (hk0 : kPlaces kd k0) {M : Mem} {vo : Int32} {ih4 : Int32 → Int32 → Option Int32} (hih4 : ∀ (x1 : Int32) (x2 : Int32), ih4 x1 x2 = some vo → At p l e (rmO 1 0 0) s m args below meth c 0 0 (MQ below (Qg G kd ad s.heap.size M (some (.int vo))) args s 0 0 (AS kd ad s.heap.size)) G kd ad 3 4 [(0, .ref (ad k0)), (1, .int x1), (2, .int x2)] [] M) : ∀ (x1 : Int32) (x2 : Int32), mX2_reachToBack_b38 k0 M ih4 x1 x2 = some vo → At p l e (rmO 1 0 0) s m args below meth c 0 0 (MQ below (Qg G kd ad s.heap.size M (some (.int vo))) args s 0 0 (AS kd ad s.heap.size)) G kd ad 3 38 [(0, .ref (ad k0)), (1, .int x1), (2, .int x2)] [] M := by
  intro x1 x2 hf H locs ls hI hl
  obtain ⟨hx, hb, hml, hr, hown, hts, hlk, hK, hap, hsx⟩ := id C
  unfold mX2_reachToBack_b38 at hf
  obtain ⟨x2_38, e7, hf⟩ := bnd_s hf
  refine lv_iinc (v := x2_38) (lv' := [(2, .int x2_38), (0, .ref (ad k0)), (1, .int x1)]) hx hb (dc tbX2_reachToBack_k 23 rfl) hl (k := 2) rfl (ii_e e7 ic_1) (by decide) rfl (fun ls hl => ?_)
  refine lv_goto (tgt := 4) hx hb (dc tbX2_reachToBack_k 24 rfl) rfl ?_
  exact hih4 x1 x2_38 hf _ _ _ hI (lv_sub hl [1, 2, 0] rfl)
def mX2_reachToBack_b4 (k0 : Nat) (M : Mem) (ih4 : Int32 → Int32 → Option Int32) (x1 : Int32) (x2 : Int32) : Option Int32 := ite2 ((rd M k0 6) ≤ x2) (some x1) (ite2 ((9 : Int32) ≤ x2) (some x1) (cap (mX2_isClamped k0 x2 M) (fun r4 => ite2 (r4 = 0) (mX2_reachToBack_b38 k0 M ih4 x1 x2) (chk (okb x2 9) (bnd ((imax x1 (-(rd M (k0 + 1) (x2).toNatClampNeg)))) (fun x1_37 => mX2_reachToBack_b38 k0 M ih4 x1_37 x2))))))
set_option maxHeartbeats 4000000 in
set_option maxRecDepth 100000 in
theorem tX2_reachToBack_b4 {p : Program} {l : Launch} {e : Env} {s : State} {m : MethodId} {args : Array Value} {below : List Frame} {meth : Method} {c : Code} {G : GT} {kd : Nat → Nat × Nat} {ad : Nat → Nat} (C : Cx p s m args meth c cX2_reachToBack 3 (some .int) RX2 G kd ad) {k0 : Nat} (hk0 : kPlaces kd k0) {M : Mem} {vo : Int32} {ih4 : Int32 → Int32 → Option Int32} (hih4 : ∀ (x1 : Int32) (x2 : Int32), ih4 x1 x2 = some vo → At p l e (rmO 1 0 0) s m args below meth c 0 0 (MQ below (Qg G kd ad s.heap.size M (some (.int vo))) args s 0 0 (AS kd ad s.heap.size)) G kd ad 3 4 [(0, .ref (ad k0)), (1, .int x1), (2, .int x2)] [] M) : ∀ (x1 : Int32) (x2 : Int32), mX2_reachToBack_b4 k0 M ih4 x1 x2 = some vo → At p l e (rmO 1 0 0) s m args below meth c 0 0 (MQ below (Qg G kd ad s.heap.size M (some (.int vo))) args s 0 0 (AS kd ad s.heap.size)) G kd ad 3 4 [(0, .ref (ad k0)), (1, .int x1), (2, .int x2)] [] M := by
  intro x1 x2 hf H locs ls hI hl
  obtain ⟨hx, hb, hml, hr, hown, hts, hlk, hK, hap, hsx⟩ := id C
  unfold mX2_reachToBack_b4 at hf
  refine lv_iload_n hx hb (dc tbX2_reachToBack_k 4 rfl) rfl (lv_at hl 2 rfl) ?_
  refine lv_aload_n hx hb (dc tbX2_reachToBack_k 5 rfl) rfl (lv_at hl 0 rfl) ?_
  refine gg2_6 hx hb hts hown hK hI hk0.1 q_t1_208 (dc tbX2_reachToBack_k 6 rfl) ?_
  refine lv_icmp_ge (tgt := 44) hx hb (dc tbX2_reachToBack_k 7 rfl) rfl (fun c1 => ?_) (fun c1 => ?_)
  · have hf := ite_t c1 hf
    refine lv_iload_n hx hb (dc tbX2_reachToBack_k 25 rfl) rfl (lv_at hl 1 rfl) ?_
    cases hf
    exact g_iret hx hb hr hlk hI (dc tbX2_reachToBack_k 26 rfl)
  · have hf := ite_f c1 hf
    refine lv_iload_n hx hb (dc tbX2_reachToBack_k 8 rfl) rfl (lv_at hl 2 rfl) ?_
    refine lv_bipush (v := 9) hx hb (dc tbX2_reachToBack_k 9 rfl) bp_9 ?_
    refine lv_icmp_ge (tgt := 44) hx hb (dc tbX2_reachToBack_k 10 rfl) rfl (fun c2 => ?_) (fun c2 => ?_)
    · have hf := ite_t c2 hf
      refine lv_iload_n hx hb (dc tbX2_reachToBack_k 25 rfl) rfl (lv_at hl 1 rfl) ?_
      cases hf
      exact g_iret hx hb hr hlk hI (dc tbX2_reachToBack_k 26 rfl)
    · have hf := ite_f c2 hf
      refine lv_aload_n hx hb (dc tbX2_reachToBack_k 11 rfl) rfl (lv_at hl 0 rfl) ?_
      refine lv_iload_n hx hb (dc tbX2_reachToBack_k 12 rfl) rfl (lv_at hl 2 rfl) ?_
      obtain ⟨r4, q3, hf⟩ := cap_s hf
      refine g_callVi hx hb hml hown hts hK hap hsx hI (tX2_isClamped l hk0 q3 H.size) cv_X2_isClamped q_t3_38 rfl rfl ⟨Nat.le_of_ble_eq_true rfl, Nat.le_of_ble_eq_true rfl⟩ hk0.1 (by simp) rfl rfl rfl hl.1 rfl (Nat.le_of_ble_eq_true rfl) (dc tbX2_reachToBack_k 13 rfl) ⟨Nat.le_of_ble_eq_true rfl, Nat.le_of_ble_eq_true rfl⟩ (fun H locs hI => ?_)
      refine lv_if_eq (tgt := 38) hx hb (dc tbX2_reachToBack_k 14 rfl) rfl (fun c6 => ?_) (fun c6 => ?_)
      · have hf := ite_t c6 hf
        exact tX2_reachToBack_b38 C hk0 hih4 x1 x2 hf _ _ _ hI (lv_sub hl [0, 1, 2] rfl)
      · have hf := ite_f c6 hf
        refine lv_iload_n hx hb (dc tbX2_reachToBack_k 15 rfl) rfl (lv_at hl 1 rfl) ?_
        refine lv_aload_n hx hb (dc tbX2_reachToBack_k 16 rfl) rfl (lv_at hl 0 rfl) ?_
        refine gg2_0 hx hb hts hown hK hI hk0.1 q_t1_200 (dc tbX2_reachToBack_k 17 rfl) ?_
        refine lv_iload_n hx hb (dc tbX2_reachToBack_k 18 rfl) rfl (lv_at hl 2 rfl) ?_
        obtain ⟨h8, hf⟩ := chk_s hf
        refine g_iald hx hb hK hI hk0.2.1 (okb_in h8) (dc tbX2_reachToBack_k 19 rfl) ?_
        refine lv_ineg hx hb (dc tbX2_reachToBack_k 20 rfl) ?_
        refine va_mmax hx hb (hml.trans hl.1.symm) hown (hts _ q_t2_202) (hts _ q_t2_203) (hts _ q_t1_22) (hts _ q_t2_204) (Nat.le_of_ble_eq_true rfl) (Nat.le_of_ble_eq_true rfl) (Nat.le_of_ble_eq_true rfl) (Nat.le_of_ble_eq_true rfl) (dc tbX2_reachToBack_k 21 rfl) ?_
        refine lv_et (show (if _ then _ else _) = (imax x1 (-(rd M (k0 + 1) (x2).toNatClampNeg))) from rfl) ?_
        obtain ⟨x1_37, e9, hf⟩ := bnd_s hf
        refine lv_ei e9 ?_
        refine lv_istore_n (lv' := [(1, .int x1_37), (0, .ref (ad k0)), (2, .int x2)]) hx hb (dc tbX2_reachToBack_k 22 rfl) rfl hl (by decide) rfl (fun ls hl => ?_)
        exact tX2_reachToBack_b38 C hk0 hih4 x1_37 x2 hf _ _ _ hI (lv_sub hl [1, 0, 2] rfl)
def mX2_reachToBack_l4 (k0 : Nat) (M : Mem) : Nat → Int32 → Int32 → Option Int32
  | 0 => fun _ _ => none
  | n + 1 => mX2_reachToBack_b4 k0 M (mX2_reachToBack_l4 k0 M n)
theorem tX2_reachToBack_l4 {p : Program} {l : Launch} {e : Env} {s : State} {m : MethodId} {args : Array Value} {below : List Frame} {meth : Method} {c : Code} {G : GT} {kd : Nat → Nat × Nat} {ad : Nat → Nat} (C : Cx p s m args meth c cX2_reachToBack 3 (some .int) RX2 G kd ad) {k0 : Nat} (hk0 : kPlaces kd k0) {M : Mem} {vo : Int32}   : ∀ (fuel : Nat) (x1 : Int32) (x2 : Int32), mX2_reachToBack_l4 k0 M fuel x1 x2 = some vo → At p l e (rmO 1 0 0) s m args below meth c 0 0 (MQ below (Qg G kd ad s.heap.size M (some (.int vo))) args s 0 0 (AS kd ad s.heap.size)) G kd ad 3 4 [(0, .ref (ad k0)), (1, .int x1), (2, .int x2)] [] M := by
  intro fuel
  induction fuel with
  | zero => intro x1 x2 hf; cases hf
  | succ n IH => exact tX2_reachToBack_b4 C hk0 IH
def mX2_reachToBack (k0 : Nat) (M : Mem) : Option Int32 := mX2_reachToBack_l4 k0 M 5000 (0 : Int32) (0 : Int32)
set_option maxHeartbeats 4000000 in
set_option maxRecDepth 100000 in
theorem tX2_reachToBack (l : Launch) {G : GT} {kd : Nat → Nat × Nat} {ad : Nat → Nat} {k0 : Nat} (hk0 : kPlaces kd k0) {M : Mem} {vo : Int32} (hf : mX2_reachToBack k0 M = some vo) (n : Nat) : Met l yX2_reachToBack (Cond.code yX2_reachToBack cX2_reachToBack 3 (some .int) :: WA) (rmO 1 0 0) (Pg G kd ad n [.ref (ad k0)] M) (Qg G kd ad n M (some (.int vo))) 0 0 (AS kd ad n) := by
  refine g_body (own := RX2) (by decide) rfl ?_ (Nat.le_of_ble_eq_true rfl)
  intro p e s m args below meth c C _ H locs ls hI hl
  obtain ⟨hx, hb, hml, hr, hown, hts, hlk, hK, hap, hsx⟩ := id C
  have hl : lv_has ls 3 [(0, .ref (ad k0))] := hl
  unfold mX2_reachToBack at hf
  refine lv_iconst (v := 0) hx hb (dc tbX2_reachToBack_k 0 rfl) ic_0 ?_
  refine lv_istore_n (lv' := [(1, .int (0 : Int32)), (0, .ref (ad k0))]) hx hb (dc tbX2_reachToBack_k 1 rfl) rfl hl (by decide) rfl (fun ls hl => ?_)
  refine lv_iconst (v := 0) hx hb (dc tbX2_reachToBack_k 2 rfl) ic_0 ?_
  refine lv_istore_n (lv' := [(2, .int (0 : Int32)), (1, .int (0 : Int32)), (0, .ref (ad k0))]) hx hb (dc tbX2_reachToBack_k 3 rfl) rfl hl (by decide) rfl (fun ls hl => ?_)
  exact tX2_reachToBack_l4 C hk0 5000 (0 : Int32) (0 : Int32) hf _ _ _ hI (lv_sub hl [2, 1, 0] rfl)
theorem cv_X2_reachToBack : cvF RX2 yX2_reachToBack cX2_reachToBack 3 (some .int) 0 := ⟨q_t3_35, q_t3_36, q_t1_5, q_t3_37, by decide +kernel⟩
def mX2_topOfFreeSide_b37 (k0 : Nat) (M : Mem) (ih4 : Int32 → Int32 → Option Int32) (x1 : Int32) (x2 : Int32) : Option Int32 := bnd (x2 + (1 : Int32)) (fun x2_37 => ih4 x1 x2_37)
set_option maxHeartbeats 4000000 in
set_option maxRecDepth 100000 in
theorem tX2_topOfFreeSide_b37 {p : Program} {l : Launch} {e : Env} {s : State} {m : MethodId} {args : Array Value} {below : List Frame} {meth : Method} {c : Code} {G : GT} {kd : Nat → Nat × Nat} {ad : Nat → Nat} (C : Cx p s m args meth c cX2_topOfFreeSide 3 (some .int) RX2 G kd ad) {k0 : Nat} (hk0 : kPlaces kd k0) {M : Mem} {vo : Int32} {ih4 : Int32 → Int32 → Option Int32} (hih4 : ∀ (x1 : Int32) (x2 : Int32), ih4 x1 x2 = some vo → At p l e (rmO 1 0 0) s m args below meth c 0 0 (MQ below (Qg G kd ad s.heap.size M (some (.int vo))) args s 0 0 (AS kd ad s.heap.size)) G kd ad 3 4 [(0, .ref (ad k0)), (1, .int x1), (2, .int x2)] [] M) : ∀ (x1 : Int32) (x2 : Int32), mX2_topOfFreeSide_b37 k0 M ih4 x1 x2 = some vo → At p l e (rmO 1 0 0) s m args below meth c 0 0 (MQ below (Qg G kd ad s.heap.size M (some (.int vo))) args s 0 0 (AS kd ad s.heap.size)) G kd ad 3 37 [(0, .ref (ad k0)), (1, .int x1), (2, .int x2)] [] M := by
  intro x1 x2 hf H locs ls hI hl
  obtain ⟨hx, hb, hml, hr, hown, hts, hlk, hK, hap, hsx⟩ := id C
  unfold mX2_topOfFreeSide_b37 at hf
  obtain ⟨x2_37, e7, hf⟩ := bnd_s hf
  refine lv_iinc (v := x2_37) (lv' := [(2, .int x2_37), (0, .ref (ad k0)), (1, .int x1)]) hx hb (dc tbX2_topOfFreeSide_k 22 rfl) hl (k := 2) rfl (ii_e e7 ic_1) (by decide) rfl (fun ls hl => ?_)
  refine lv_goto (tgt := 4) hx hb (dc tbX2_topOfFreeSide_k 23 rfl) rfl ?_
  exact hih4 x1 x2_37 hf _ _ _ hI (lv_sub hl [1, 2, 0] rfl)
def mX2_topOfFreeSide_b4 (k0 : Nat) (M : Mem) (ih4 : Int32 → Int32 → Option Int32) (x1 : Int32) (x2 : Int32) : Option Int32 := ite2 ((rd M k0 6) ≤ x2) (some x1) (ite2 ((9 : Int32) ≤ x2) (some x1) (cap (mX2_isClamped k0 x2 M) (fun r4 => ite2 (r4 = 0) (chk (okb x2 9) (bnd ((imax x1 (rd M (k0 + 2) (x2).toNatClampNeg))) (fun x1_36 => mX2_topOfFreeSide_b37 k0 M ih4 x1_36 x2))) (mX2_topOfFreeSide_b37 k0 M ih4 x1 x2))))
set_option maxHeartbeats 4000000 in
set_option maxRecDepth 100000 in
theorem tX2_topOfFreeSide_b4 {p : Program} {l : Launch} {e : Env} {s : State} {m : MethodId} {args : Array Value} {below : List Frame} {meth : Method} {c : Code} {G : GT} {kd : Nat → Nat × Nat} {ad : Nat → Nat} (C : Cx p s m args meth c cX2_topOfFreeSide 3 (some .int) RX2 G kd ad) {k0 : Nat} (hk0 : kPlaces kd k0) {M : Mem} {vo : Int32} {ih4 : Int32 → Int32 → Option Int32} (hih4 : ∀ (x1 : Int32) (x2 : Int32), ih4 x1 x2 = some vo → At p l e (rmO 1 0 0) s m args below meth c 0 0 (MQ below (Qg G kd ad s.heap.size M (some (.int vo))) args s 0 0 (AS kd ad s.heap.size)) G kd ad 3 4 [(0, .ref (ad k0)), (1, .int x1), (2, .int x2)] [] M) : ∀ (x1 : Int32) (x2 : Int32), mX2_topOfFreeSide_b4 k0 M ih4 x1 x2 = some vo → At p l e (rmO 1 0 0) s m args below meth c 0 0 (MQ below (Qg G kd ad s.heap.size M (some (.int vo))) args s 0 0 (AS kd ad s.heap.size)) G kd ad 3 4 [(0, .ref (ad k0)), (1, .int x1), (2, .int x2)] [] M := by
  intro x1 x2 hf H locs ls hI hl
  obtain ⟨hx, hb, hml, hr, hown, hts, hlk, hK, hap, hsx⟩ := id C
  unfold mX2_topOfFreeSide_b4 at hf
  refine lv_iload_n hx hb (dc tbX2_topOfFreeSide_k 4 rfl) rfl (lv_at hl 2 rfl) ?_
  refine lv_aload_n hx hb (dc tbX2_topOfFreeSide_k 5 rfl) rfl (lv_at hl 0 rfl) ?_
  refine gg2_6 hx hb hts hown hK hI hk0.1 q_t1_208 (dc tbX2_topOfFreeSide_k 6 rfl) ?_
  refine lv_icmp_ge (tgt := 43) hx hb (dc tbX2_topOfFreeSide_k 7 rfl) rfl (fun c1 => ?_) (fun c1 => ?_)
  · have hf := ite_t c1 hf
    refine lv_iload_n hx hb (dc tbX2_topOfFreeSide_k 24 rfl) rfl (lv_at hl 1 rfl) ?_
    cases hf
    exact g_iret hx hb hr hlk hI (dc tbX2_topOfFreeSide_k 25 rfl)
  · have hf := ite_f c1 hf
    refine lv_iload_n hx hb (dc tbX2_topOfFreeSide_k 8 rfl) rfl (lv_at hl 2 rfl) ?_
    refine lv_bipush (v := 9) hx hb (dc tbX2_topOfFreeSide_k 9 rfl) bp_9 ?_
    refine lv_icmp_ge (tgt := 43) hx hb (dc tbX2_topOfFreeSide_k 10 rfl) rfl (fun c2 => ?_) (fun c2 => ?_)
    · have hf := ite_t c2 hf
      refine lv_iload_n hx hb (dc tbX2_topOfFreeSide_k 24 rfl) rfl (lv_at hl 1 rfl) ?_
      cases hf
      exact g_iret hx hb hr hlk hI (dc tbX2_topOfFreeSide_k 25 rfl)
    · have hf := ite_f c2 hf
      refine lv_aload_n hx hb (dc tbX2_topOfFreeSide_k 11 rfl) rfl (lv_at hl 0 rfl) ?_
      refine lv_iload_n hx hb (dc tbX2_topOfFreeSide_k 12 rfl) rfl (lv_at hl 2 rfl) ?_
      obtain ⟨r4, q3, hf⟩ := cap_s hf
      refine g_callVi hx hb hml hown hts hK hap hsx hI (tX2_isClamped l hk0 q3 H.size) cv_X2_isClamped q_t3_38 rfl rfl ⟨Nat.le_of_ble_eq_true rfl, Nat.le_of_ble_eq_true rfl⟩ hk0.1 (by simp) rfl rfl rfl hl.1 rfl (Nat.le_of_ble_eq_true rfl) (dc tbX2_topOfFreeSide_k 13 rfl) ⟨Nat.le_of_ble_eq_true rfl, Nat.le_of_ble_eq_true rfl⟩ (fun H locs hI => ?_)
      refine lv_if_ne (tgt := 37) hx hb (dc tbX2_topOfFreeSide_k 14 rfl) rfl (fun c6 => ?_) (fun c6 => ?_)
      · have hf := ite_f c6 hf
        exact tX2_topOfFreeSide_b37 C hk0 hih4 x1 x2 hf _ _ _ hI (lv_sub hl [0, 1, 2] rfl)
      · have hf := ite_t c6 hf
        refine lv_iload_n hx hb (dc tbX2_topOfFreeSide_k 15 rfl) rfl (lv_at hl 1 rfl) ?_
        refine lv_aload_n hx hb (dc tbX2_topOfFreeSide_k 16 rfl) rfl (lv_at hl 0 rfl) ?_
        refine gg2_1 hx hb hts hown hK hI hk0.1 q_t1_202 (dc tbX2_topOfFreeSide_k 17 rfl) ?_
        refine lv_iload_n hx hb (dc tbX2_topOfFreeSide_k 18 rfl) rfl (lv_at hl 2 rfl) ?_
        obtain ⟨h8, hf⟩ := chk_s hf
        refine g_iald hx hb hK hI hk0.2.2.1 (okb_in h8) (dc tbX2_topOfFreeSide_k 19 rfl) ?_
        refine va_mmax hx hb (hml.trans hl.1.symm) hown (hts _ q_t2_202) (hts _ q_t2_203) (hts _ q_t1_22) (hts _ q_t2_204) (Nat.le_of_ble_eq_true rfl) (Nat.le_of_ble_eq_true rfl) (Nat.le_of_ble_eq_true rfl) (Nat.le_of_ble_eq_true rfl) (dc tbX2_topOfFreeSide_k 20 rfl) ?_
        refine lv_et (show (if _ then _ else _) = (imax x1 (rd M (k0 + 2) (x2).toNatClampNeg)) from rfl) ?_
        obtain ⟨x1_36, e9, hf⟩ := bnd_s hf
        refine lv_ei e9 ?_
        refine lv_istore_n (lv' := [(1, .int x1_36), (0, .ref (ad k0)), (2, .int x2)]) hx hb (dc tbX2_topOfFreeSide_k 21 rfl) rfl hl (by decide) rfl (fun ls hl => ?_)
        exact tX2_topOfFreeSide_b37 C hk0 hih4 x1_36 x2 hf _ _ _ hI (lv_sub hl [1, 0, 2] rfl)
def mX2_topOfFreeSide_l4 (k0 : Nat) (M : Mem) : Nat → Int32 → Int32 → Option Int32
  | 0 => fun _ _ => none
  | n + 1 => mX2_topOfFreeSide_b4 k0 M (mX2_topOfFreeSide_l4 k0 M n)
theorem tX2_topOfFreeSide_l4 {p : Program} {l : Launch} {e : Env} {s : State} {m : MethodId} {args : Array Value} {below : List Frame} {meth : Method} {c : Code} {G : GT} {kd : Nat → Nat × Nat} {ad : Nat → Nat} (C : Cx p s m args meth c cX2_topOfFreeSide 3 (some .int) RX2 G kd ad) {k0 : Nat} (hk0 : kPlaces kd k0) {M : Mem} {vo : Int32}   : ∀ (fuel : Nat) (x1 : Int32) (x2 : Int32), mX2_topOfFreeSide_l4 k0 M fuel x1 x2 = some vo → At p l e (rmO 1 0 0) s m args below meth c 0 0 (MQ below (Qg G kd ad s.heap.size M (some (.int vo))) args s 0 0 (AS kd ad s.heap.size)) G kd ad 3 4 [(0, .ref (ad k0)), (1, .int x1), (2, .int x2)] [] M := by
  intro fuel
  induction fuel with
  | zero => intro x1 x2 hf; cases hf
  | succ n IH => exact tX2_topOfFreeSide_b4 C hk0 IH
def mX2_topOfFreeSide (k0 : Nat) (M : Mem) : Option Int32 := mX2_topOfFreeSide_l4 k0 M 5000 (0 : Int32) (0 : Int32)
set_option maxHeartbeats 4000000 in
set_option maxRecDepth 100000 in
theorem tX2_topOfFreeSide (l : Launch) {G : GT} {kd : Nat → Nat × Nat} {ad : Nat → Nat} {k0 : Nat} (hk0 : kPlaces kd k0) {M : Mem} {vo : Int32} (hf : mX2_topOfFreeSide k0 M = some vo) (n : Nat) : Met l yX2_topOfFreeSide (Cond.code yX2_topOfFreeSide cX2_topOfFreeSide 3 (some .int) :: WA) (rmO 1 0 0) (Pg G kd ad n [.ref (ad k0)] M) (Qg G kd ad n M (some (.int vo))) 0 0 (AS kd ad n) := by
  refine g_body (own := RX2) (by decide) rfl ?_ (Nat.le_of_ble_eq_true rfl)
  intro p e s m args below meth c C _ H locs ls hI hl
  obtain ⟨hx, hb, hml, hr, hown, hts, hlk, hK, hap, hsx⟩ := id C
  have hl : lv_has ls 3 [(0, .ref (ad k0))] := hl
  unfold mX2_topOfFreeSide at hf
  refine lv_iconst (v := 0) hx hb (dc tbX2_topOfFreeSide_k 0 rfl) ic_0 ?_
  refine lv_istore_n (lv' := [(1, .int (0 : Int32)), (0, .ref (ad k0))]) hx hb (dc tbX2_topOfFreeSide_k 1 rfl) rfl hl (by decide) rfl (fun ls hl => ?_)
  refine lv_iconst (v := 0) hx hb (dc tbX2_topOfFreeSide_k 2 rfl) ic_0 ?_
  refine lv_istore_n (lv' := [(2, .int (0 : Int32)), (1, .int (0 : Int32)), (0, .ref (ad k0))]) hx hb (dc tbX2_topOfFreeSide_k 3 rfl) rfl hl (by decide) rfl (fun ls hl => ?_)
  exact tX2_topOfFreeSide_l4 C hk0 5000 (0 : Int32) (0 : Int32) hf _ _ _ hI (lv_sub hl [2, 1, 0] rfl)
theorem cv_X2_topOfFreeSide : cvF RX2 yX2_topOfFreeSide cX2_topOfFreeSide 3 (some .int) 0 := ⟨q_t6_134, q_t6_135, q_t1_5, q_t6_136, by decide +kernel⟩
def mX2_extent_b7 (k0 : Nat) (M : Mem) (ih7 : Int32 → Int32 → Int32 → Int32 → Option Int32) (x1 : Int32) (x2 : Int32) (x3 : Int32) (x4 : Int32) : Option Int32 := ite2 (x1 ≤ x4) (some (x3 - x2)) (ite2 ((9 : Int32) ≤ x4) (some (x3 - x2)) (chk (okb x4 9) (bnd ((imin x2 (rd M k0 (x4).toNatClampNeg))) (fun x2_28 => chk (okb x4 9) (bnd ((imax x3 (rd M k0 (x4).toNatClampNeg))) (fun x3_37 => bnd (x4 + (1 : Int32)) (fun x4_38 => ih7 x1 x2_28 x3_37 x4_38)))))))
set_option maxHeartbeats 4000000 in
set_option maxRecDepth 100000 in
theorem tX2_extent_b7 {p : Program} {l : Launch} {e : Env} {s : State} {m : MethodId} {args : Array Value} {below : List Frame} {meth : Method} {c : Code} {G : GT} {kd : Nat → Nat × Nat} {ad : Nat → Nat} (C : Cx p s m args meth c cX2_extent 5 (some .int) RX2 G kd ad) {k0 : Nat} (hk0 : kd k0 = (10, 9)) {M : Mem} {vo : Int32} {ih7 : Int32 → Int32 → Int32 → Int32 → Option Int32} (hih7 : ∀ (x1 : Int32) (x2 : Int32) (x3 : Int32) (x4 : Int32), ih7 x1 x2 x3 x4 = some vo → At p l e (rmO 0 0 0) s m args below meth c 0 0 (MQ below (Qg G kd ad s.heap.size M (some (.int vo))) args s 0 0 (AS kd ad s.heap.size)) G kd ad 5 7 [(0, .ref (ad k0)), (1, .int x1), (2, .int x2), (3, .int x3), (4, .int x4)] [] M) : ∀ (x1 : Int32) (x2 : Int32) (x3 : Int32) (x4 : Int32), mX2_extent_b7 k0 M ih7 x1 x2 x3 x4 = some vo → At p l e (rmO 0 0 0) s m args below meth c 0 0 (MQ below (Qg G kd ad s.heap.size M (some (.int vo))) args s 0 0 (AS kd ad s.heap.size)) G kd ad 5 7 [(0, .ref (ad k0)), (1, .int x1), (2, .int x2), (3, .int x3), (4, .int x4)] [] M := by
  intro x1 x2 x3 x4 hf H locs ls hI hl
  obtain ⟨hx, hb, hml, hr, hown, hts, hlk, hK, hap, hsx⟩ := id C
  unfold mX2_extent_b7 at hf
  refine lv_iload hx hb (dc tbX2_extent_k 6 rfl) (lv_at hl 4 rfl) ?_
  refine lv_iload_n hx hb (dc tbX2_extent_k 7 rfl) rfl (lv_at hl 1 rfl) ?_
  refine lv_icmp_ge (tgt := 44) hx hb (dc tbX2_extent_k 8 rfl) rfl (fun c1 => ?_) (fun c1 => ?_)
  · have hf := ite_t c1 hf
    refine lv_iload_n hx hb (dc tbX2_extent_k 27 rfl) rfl (lv_at hl 3 rfl) ?_
    refine lv_iload_n hx hb (dc tbX2_extent_k 28 rfl) rfl (lv_at hl 2 rfl) ?_
    refine lv_isub hx hb (dc tbX2_extent_k 29 rfl) ?_
    cases hf
    exact g_iret hx hb hr hlk hI (dc tbX2_extent_k 30 rfl)
  · have hf := ite_f c1 hf
    refine lv_iload hx hb (dc tbX2_extent_k 9 rfl) (lv_at hl 4 rfl) ?_
    refine lv_aload_n hx hb (dc tbX2_extent_k 10 rfl) rfl (lv_at hl 0 rfl) ?_
    refine g_alen hx hb hK hI hk0 (v := 9) (by decide) (dc tbX2_extent_k 11 rfl) ?_
    refine lv_icmp_ge (tgt := 44) hx hb (dc tbX2_extent_k 12 rfl) rfl (fun c2 => ?_) (fun c2 => ?_)
    · have hf := ite_t c2 hf
      refine lv_iload_n hx hb (dc tbX2_extent_k 27 rfl) rfl (lv_at hl 3 rfl) ?_
      refine lv_iload_n hx hb (dc tbX2_extent_k 28 rfl) rfl (lv_at hl 2 rfl) ?_
      refine lv_isub hx hb (dc tbX2_extent_k 29 rfl) ?_
      cases hf
      exact g_iret hx hb hr hlk hI (dc tbX2_extent_k 30 rfl)
    · have hf := ite_f c2 hf
      refine lv_iload_n hx hb (dc tbX2_extent_k 13 rfl) rfl (lv_at hl 2 rfl) ?_
      refine lv_aload_n hx hb (dc tbX2_extent_k 14 rfl) rfl (lv_at hl 0 rfl) ?_
      refine lv_iload hx hb (dc tbX2_extent_k 15 rfl) (lv_at hl 4 rfl) ?_
      obtain ⟨h3, hf⟩ := chk_s hf
      refine g_iald hx hb hK hI hk0 (okb_in h3) (dc tbX2_extent_k 16 rfl) ?_
      refine va_mmin hx hb (hml.trans hl.1.symm) hown (hts _ q_t2_199) (hts _ q_t2_200) (hts _ q_t1_22) (hts _ q_t2_201) (Nat.le_of_ble_eq_true rfl) (Nat.le_of_ble_eq_true rfl) (Nat.le_of_ble_eq_true rfl) (Nat.le_of_ble_eq_true rfl) (dc tbX2_extent_k 17 rfl) ?_
      refine lv_et (show (if _ then _ else _) = (imin x2 (rd M k0 (x4).toNatClampNeg)) from rfl) ?_
      obtain ⟨x2_28, e4, hf⟩ := bnd_s hf
      refine lv_ei e4 ?_
      refine lv_istore_n (lv' := [(2, .int x2_28), (0, .ref (ad k0)), (1, .int x1), (3, .int x3), (4, .int x4)]) hx hb (dc tbX2_extent_k 18 rfl) rfl hl (by decide) rfl (fun ls hl => ?_)
      refine lv_iload_n hx hb (dc tbX2_extent_k 19 rfl) rfl (lv_at hl 3 rfl) ?_
      refine lv_aload_n hx hb (dc tbX2_extent_k 20 rfl) rfl (lv_at hl 1 rfl) ?_
      refine lv_iload hx hb (dc tbX2_extent_k 21 rfl) (lv_at hl 4 rfl) ?_
      obtain ⟨h5, hf⟩ := chk_s hf
      refine g_iald hx hb hK hI hk0 (okb_in h5) (dc tbX2_extent_k 22 rfl) ?_
      refine va_mmax hx hb (hml.trans hl.1.symm) hown (hts _ q_t2_202) (hts _ q_t2_203) (hts _ q_t1_22) (hts _ q_t2_204) (Nat.le_of_ble_eq_true rfl) (Nat.le_of_ble_eq_true rfl) (Nat.le_of_ble_eq_true rfl) (Nat.le_of_ble_eq_true rfl) (dc tbX2_extent_k 23 rfl) ?_
      refine lv_et (show (if _ then _ else _) = (imax x3 (rd M k0 (x4).toNatClampNeg)) from rfl) ?_
      obtain ⟨x3_37, e6, hf⟩ := bnd_s hf
      refine lv_ei e6 ?_
      refine lv_istore_n (lv' := [(3, .int x3_37), (2, .int x2_28), (0, .ref (ad k0)), (1, .int x1), (4, .int x4)]) hx hb (dc tbX2_extent_k 24 rfl) rfl hl (by decide) rfl (fun ls hl => ?_)
      obtain ⟨x4_38, e7, hf⟩ := bnd_s hf
      refine lv_iinc (v := x4_38) (lv' := [(4, .int x4_38), (3, .int x3_37), (2, .int x2_28), (0, .ref (ad k0)), (1, .int x1)]) hx hb (dc tbX2_extent_k 25 rfl) hl (k := 4) rfl (ii_e e7 ic_1) (by decide) rfl (fun ls hl => ?_)
      refine lv_goto (tgt := 7) hx hb (dc tbX2_extent_k 26 rfl) rfl ?_
      exact hih7 x1 x2_28 x3_37 x4_38 hf _ _ _ hI (lv_sub hl [3, 4, 2, 1, 0] rfl)
def mX2_extent_l7 (k0 : Nat) (M : Mem) : Nat → Int32 → Int32 → Int32 → Int32 → Option Int32
  | 0 => fun _ _ _ _ => none
  | n + 1 => mX2_extent_b7 k0 M (mX2_extent_l7 k0 M n)
theorem tX2_extent_l7 {p : Program} {l : Launch} {e : Env} {s : State} {m : MethodId} {args : Array Value} {below : List Frame} {meth : Method} {c : Code} {G : GT} {kd : Nat → Nat × Nat} {ad : Nat → Nat} (C : Cx p s m args meth c cX2_extent 5 (some .int) RX2 G kd ad) {k0 : Nat} (hk0 : kd k0 = (10, 9)) {M : Mem} {vo : Int32}   : ∀ (fuel : Nat) (x1 : Int32) (x2 : Int32) (x3 : Int32) (x4 : Int32), mX2_extent_l7 k0 M fuel x1 x2 x3 x4 = some vo → At p l e (rmO 0 0 0) s m args below meth c 0 0 (MQ below (Qg G kd ad s.heap.size M (some (.int vo))) args s 0 0 (AS kd ad s.heap.size)) G kd ad 5 7 [(0, .ref (ad k0)), (1, .int x1), (2, .int x2), (3, .int x3), (4, .int x4)] [] M := by
  intro fuel
  induction fuel with
  | zero => intro x1 x2 x3 x4 hf; cases hf
  | succ n IH => exact tX2_extent_b7 C hk0 IH
def mX2_extent (k0 : Nat) (x1 : Int32) (M : Mem) : Option Int32 := mX2_extent_l7 k0 M 5000 x1 (0 : Int32) (0 : Int32) (0 : Int32)
set_option maxHeartbeats 4000000 in
set_option maxRecDepth 100000 in
theorem tX2_extent (l : Launch) {G : GT} {kd : Nat → Nat × Nat} {ad : Nat → Nat} {k0 : Nat} (hk0 : kd k0 = (10, 9)) {x1 : Int32} {M : Mem} {vo : Int32} (hf : mX2_extent k0 x1 M = some vo) (n : Nat) : Met l yX2_extent (Cond.code yX2_extent cX2_extent 5 (some .int) :: WA) (rmO 0 0 0) (Pg G kd ad n [.ref (ad k0), .int x1] M) (Qg G kd ad n M (some (.int vo))) 0 0 (AS kd ad n) := by
  refine g_body (own := RX2) (by decide) rfl ?_ (Nat.le_of_ble_eq_true rfl)
  intro p e s m args below meth c C _ H locs ls hI hl
  obtain ⟨hx, hb, hml, hr, hown, hts, hlk, hK, hap, hsx⟩ := id C
  have hl : lv_has ls 5 [(0, .ref (ad k0)), (1, .int x1)] := hl
  unfold mX2_extent at hf
  refine lv_iconst (v := 0) hx hb (dc tbX2_extent_k 0 rfl) ic_0 ?_
  refine lv_istore_n (lv' := [(2, .int (0 : Int32)), (0, .ref (ad k0)), (1, .int x1)]) hx hb (dc tbX2_extent_k 1 rfl) rfl hl (by decide) rfl (fun ls hl => ?_)
  refine lv_iconst (v := 0) hx hb (dc tbX2_extent_k 2 rfl) ic_0 ?_
  refine lv_istore_n (lv' := [(3, .int (0 : Int32)), (2, .int (0 : Int32)), (0, .ref (ad k0)), (1, .int x1)]) hx hb (dc tbX2_extent_k 3 rfl) rfl hl (by decide) rfl (fun ls hl => ?_)
  refine lv_iconst (v := 0) hx hb (dc tbX2_extent_k 4 rfl) ic_0 ?_
  refine lv_istore (lv' := [(4, .int (0 : Int32)), (3, .int (0 : Int32)), (2, .int (0 : Int32)), (0, .ref (ad k0)), (1, .int x1)]) hx hb (dc tbX2_extent_k 5 rfl) hl (by decide) rfl (fun ls hl => ?_)
  exact tX2_extent_l7 C hk0 5000 x1 (0 : Int32) (0 : Int32) (0 : Int32) hf _ _ _ hI (lv_sub hl [3, 4, 2, 1, 0] rfl)
theorem cs_X2_extent : csF yX2_extent cX2_extent 5 (some .int) 2 := ⟨q_t2_206, q_t1_5, q_t2_207, by decide +kernel⟩
def mX2_enters (k0 : Nat) (x1 : Int32) (x2 : Int32) (x3 : Int32) (x4 : Int32) (x5 : Int32) (M : Mem) : Option Int32 := ite2 (x3 ≤ x2) (some (0 : Int32)) (ite2 (x4 < x5) (chk (okb x1 9) (ite2 (x3 ≤ (rd M (k0 + 3) (x1).toNatClampNeg)) (some (0 : Int32)) (chk (okb x1 9) (ite2 ((rd M (k0 + 4) (x1).toNatClampNeg) ≤ x2) (some (0 : Int32)) (chk (okb x1 9) (ite2 (x5 ≤ (rd M (k0 + 5) (x1).toNatClampNeg)) (some (0 : Int32)) (chk (okb x1 9) (ite2 ((rd M (k0 + 6) (x1).toNatClampNeg) ≤ x4) (some (0 : Int32)) (some (1 : Int32)))))))))) (some (0 : Int32)))
set_option maxHeartbeats 4000000 in
set_option maxRecDepth 100000 in
theorem tX2_enters (l : Launch) {G : GT} {kd : Nat → Nat × Nat} {ad : Nat → Nat} {k0 : Nat} (hk0 : kPlaces kd k0) {x1 : Int32} {x2 : Int32} {x3 : Int32} {x4 : Int32} {x5 : Int32} {M : Mem} {vo : Int32} (hf : mX2_enters k0 x1 x2 x3 x4 x5 M = some vo) (n : Nat) : Met l yX2_enters (Cond.code yX2_enters cX2_enters 6 (some .boolean) :: WA) (rmO 0 0 0) (Pg G kd ad n [.ref (ad k0), .int x1, .int x2, .int x3, .int x4, .int x5] M) (Qg G kd ad n M (some (.int vo))) 0 0 (AS kd ad n) := by
  refine g_body (own := RX2) (by decide) rfl ?_ (Nat.le_of_ble_eq_true rfl)
  intro p e s m args below meth c C _ H locs ls hI hl
  obtain ⟨hx, hb, hml, hr, hown, hts, hlk, hK, hap, hsx⟩ := id C
  have hl : lv_has ls 6 [(0, .ref (ad k0)), (1, .int x1), (2, .int x2), (3, .int x3), (4, .int x4), (5, .int x5)] := hl
  unfold mX2_enters at hf
  refine lv_iload_n hx hb (dc tbX2_enters_k 0 rfl) rfl (lv_at hl 2 rfl) ?_
  refine lv_iload_n hx hb (dc tbX2_enters_k 1 rfl) rfl (lv_at hl 3 rfl) ?_
  refine lv_icmp_ge (tgt := 12) hx hb (dc tbX2_enters_k 2 rfl) rfl (fun c1 => ?_) (fun c1 => ?_)
  · have hf := ite_t c1 hf
    refine lv_iconst (v := 0) hx hb (dc tbX2_enters_k 6 rfl) ic_0 ?_
    cases hf
    exact g_zret hx hb hr hlk hI rfl (dc tbX2_enters_k 7 rfl)
  · have hf := ite_f c1 hf
    refine lv_iload hx hb (dc tbX2_enters_k 3 rfl) (lv_at hl 4 rfl) ?_
    refine lv_iload hx hb (dc tbX2_enters_k 4 rfl) (lv_at hl 5 rfl) ?_
    refine lv_icmp_lt (tgt := 14) hx hb (dc tbX2_enters_k 5 rfl) rfl (fun c2 => ?_) (fun c2 => ?_)
    · have hf := ite_t c2 hf
      refine lv_aload_n hx hb (dc tbX2_enters_k 8 rfl) rfl (lv_at hl 0 rfl) ?_
      refine gg2_2 hx hb hts hown hK hI hk0.1 q_t1_204 (dc tbX2_enters_k 9 rfl) ?_
      refine lv_iload_n hx hb (dc tbX2_enters_k 10 rfl) rfl (lv_at hl 1 rfl) ?_
      obtain ⟨h3, hf⟩ := chk_s hf
      refine g_iald hx hb hK hI hk0.2.2.2.1 (okb_in h3) (dc tbX2_enters_k 11 rfl) ?_
      refine lv_iload_n hx hb (dc tbX2_enters_k 12 rfl) rfl (lv_at hl 3 rfl) ?_
      refine lv_icmp_ge (tgt := 60) hx hb (dc tbX2_enters_k 13 rfl) rfl (fun c4 => ?_) (fun c4 => ?_)
      · have hf := ite_t c4 hf
        refine lv_iconst (v := 0) hx hb (dc tbX2_enters_k 34 rfl) ic_0 ?_
        cases hf
        exact g_zret hx hb hr hlk hI rfl (dc tbX2_enters_k 35 rfl)
      · have hf := ite_f c4 hf
        refine lv_aload_n hx hb (dc tbX2_enters_k 14 rfl) rfl (lv_at hl 0 rfl) ?_
        refine gg2_3 hx hb hts hown hK hI hk0.1 q_t1_205 (dc tbX2_enters_k 15 rfl) ?_
        refine lv_iload_n hx hb (dc tbX2_enters_k 16 rfl) rfl (lv_at hl 1 rfl) ?_
        obtain ⟨h5, hf⟩ := chk_s hf
        refine g_iald hx hb hK hI hk0.2.2.2.2.1 (okb_in h5) (dc tbX2_enters_k 17 rfl) ?_
        refine lv_iload_n hx hb (dc tbX2_enters_k 18 rfl) rfl (lv_at hl 2 rfl) ?_
        refine lv_icmp_le (tgt := 60) hx hb (dc tbX2_enters_k 19 rfl) rfl (fun c6 => ?_) (fun c6 => ?_)
        · have hf := ite_t c6 hf
          refine lv_iconst (v := 0) hx hb (dc tbX2_enters_k 34 rfl) ic_0 ?_
          cases hf
          exact g_zret hx hb hr hlk hI rfl (dc tbX2_enters_k 35 rfl)
        · have hf := ite_f c6 hf
          refine lv_aload_n hx hb (dc tbX2_enters_k 20 rfl) rfl (lv_at hl 0 rfl) ?_
          refine gg2_4 hx hb hts hown hK hI hk0.1 q_t1_206 (dc tbX2_enters_k 21 rfl) ?_
          refine lv_iload_n hx hb (dc tbX2_enters_k 22 rfl) rfl (lv_at hl 1 rfl) ?_
          obtain ⟨h7, hf⟩ := chk_s hf
          refine g_iald hx hb hK hI hk0.2.2.2.2.2.1 (okb_in h7) (dc tbX2_enters_k 23 rfl) ?_
          refine lv_iload hx hb (dc tbX2_enters_k 24 rfl) (lv_at hl 5 rfl) ?_
          refine lv_icmp_ge (tgt := 60) hx hb (dc tbX2_enters_k 25 rfl) rfl (fun c8 => ?_) (fun c8 => ?_)
          · have hf := ite_t c8 hf
            refine lv_iconst (v := 0) hx hb (dc tbX2_enters_k 34 rfl) ic_0 ?_
            cases hf
            exact g_zret hx hb hr hlk hI rfl (dc tbX2_enters_k 35 rfl)
          · have hf := ite_f c8 hf
            refine lv_aload_n hx hb (dc tbX2_enters_k 26 rfl) rfl (lv_at hl 0 rfl) ?_
            refine gg2_5 hx hb hts hown hK hI hk0.1 q_t1_207 (dc tbX2_enters_k 27 rfl) ?_
            refine lv_iload_n hx hb (dc tbX2_enters_k 28 rfl) rfl (lv_at hl 1 rfl) ?_
            obtain ⟨h9, hf⟩ := chk_s hf
            refine g_iald hx hb hK hI hk0.2.2.2.2.2.2 (okb_in h9) (dc tbX2_enters_k 29 rfl) ?_
            refine lv_iload hx hb (dc tbX2_enters_k 30 rfl) (lv_at hl 4 rfl) ?_
            refine lv_icmp_le (tgt := 60) hx hb (dc tbX2_enters_k 31 rfl) rfl (fun c10 => ?_) (fun c10 => ?_)
            · have hf := ite_t c10 hf
              refine lv_iconst (v := 0) hx hb (dc tbX2_enters_k 34 rfl) ic_0 ?_
              cases hf
              exact g_zret hx hb hr hlk hI rfl (dc tbX2_enters_k 35 rfl)
            · have hf := ite_f c10 hf
              refine lv_iconst (v := 1) hx hb (dc tbX2_enters_k 32 rfl) ic_1 ?_
              refine lv_goto (tgt := 61) hx hb (dc tbX2_enters_k 33 rfl) rfl ?_
              cases hf
              exact g_zret hx hb hr hlk hI rfl (dc tbX2_enters_k 35 rfl)
    · have hf := ite_f c2 hf
      refine lv_iconst (v := 0) hx hb (dc tbX2_enters_k 6 rfl) ic_0 ?_
      cases hf
      exact g_zret hx hb hr hlk hI rfl (dc tbX2_enters_k 7 rfl)
theorem cv_X2_enters : cvF RX2 yX2_enters cX2_enters 6 (some .boolean) 5 := ⟨q_t3_48, q_s1_6, q_t1_5, q_t3_49, by decide +kernel⟩
def mX2_legsHitting_b108 (k0 : Nat) (k1 : Nat) (M : Mem) (ih10 : Int32 → Int32 → Option Int32) (x3 : Int32) (x4 : Int32) : Option Int32 := bnd (x4 + (1 : Int32)) (fun x4_108 => ih10 x3 x4_108)
set_option maxHeartbeats 4000000 in
set_option maxRecDepth 100000 in
theorem tX2_legsHitting_b108 {p : Program} {l : Launch} {e : Env} {s : State} {m : MethodId} {args : Array Value} {below : List Frame} {meth : Method} {c : Code} {G : GT} {kd : Nat → Nat × Nat} {ad : Nat → Nat} (C : Cx p s m args meth c cX2_legsHitting 6 (some .int) RX2 G kd ad) {k0 : Nat} {k1 : Nat} (hk0 : kPlaces kd k0) (hk1 : kPart kd k1) {M : Mem} {vo : Int32} {ih10 : Int32 → Int32 → Option Int32} (hih10 : ∀ (x3 : Int32) (x4 : Int32), ih10 x3 x4 = some vo → At p l e (rmO 1 0 0) s m args below meth c 0 0 (MQ below (Qg G kd ad s.heap.size M (some (.int vo))) args s 0 0 (AS kd ad s.heap.size)) G kd ad 6 10 [(0, .ref (ad k0)), (2, .ref (ad (k1 + 2))), (3, .int x3), (4, .int x4)] [] M) : ∀ (x3 : Int32) (x4 : Int32), mX2_legsHitting_b108 k0 k1 M ih10 x3 x4 = some vo → At p l e (rmO 1 0 0) s m args below meth c 0 0 (MQ below (Qg G kd ad s.heap.size M (some (.int vo))) args s 0 0 (AS kd ad s.heap.size)) G kd ad 6 108 [(0, .ref (ad k0)), (2, .ref (ad (k1 + 2))), (3, .int x3), (4, .int x4)] [] M := by
  intro x3 x4 hf H locs ls hI hl
  obtain ⟨hx, hb, hml, hr, hown, hts, hlk, hK, hap, hsx⟩ := id C
  unfold mX2_legsHitting_b108 at hf
  obtain ⟨x4_108, e10, hf⟩ := bnd_s hf
  refine lv_iinc (v := x4_108) (lv' := [(4, .int x4_108), (0, .ref (ad k0)), (2, .ref (ad (k1 + 2))), (3, .int x3)]) hx hb (dc tbX2_legsHitting_1_k 29 rfl) hl (k := 3) rfl (ii_e e10 ic_1) (by decide) rfl (fun ls hl => ?_)
  refine lv_goto (tgt := 10) hx hb (dc tbX2_legsHitting_1_k 30 rfl) rfl ?_
  exact hih10 x3 x4_108 hf _ _ _ hI (lv_sub hl [1, 2, 3, 0] rfl)
def mX2_legsHitting_b94 (k0 : Nat) (k1 : Nat) (M : Mem) (ih10 : Int32 → Int32 → Option Int32) (x3 : Int32) (x4 : Int32) (y0 : Int32) : Option Int32 := ite2 (y0 = 0) (mX2_legsHitting_b108 k0 k1 M ih10 x3 x4) (bnd ((x3 ||| ((1 : Int32) <<< (x4 &&& 31)))) (fun x3_107 => mX2_legsHitting_b108 k0 k1 M ih10 x3_107 x4))
set_option maxHeartbeats 4000000 in
set_option maxRecDepth 100000 in
theorem tX2_legsHitting_b94 {p : Program} {l : Launch} {e : Env} {s : State} {m : MethodId} {args : Array Value} {below : List Frame} {meth : Method} {c : Code} {G : GT} {kd : Nat → Nat × Nat} {ad : Nat → Nat} (C : Cx p s m args meth c cX2_legsHitting 6 (some .int) RX2 G kd ad) {k0 : Nat} {k1 : Nat} (hk0 : kPlaces kd k0) (hk1 : kPart kd k1) {M : Mem} {vo : Int32} {ih10 : Int32 → Int32 → Option Int32} (hih10 : ∀ (x3 : Int32) (x4 : Int32), ih10 x3 x4 = some vo → At p l e (rmO 1 0 0) s m args below meth c 0 0 (MQ below (Qg G kd ad s.heap.size M (some (.int vo))) args s 0 0 (AS kd ad s.heap.size)) G kd ad 6 10 [(0, .ref (ad k0)), (2, .ref (ad (k1 + 2))), (3, .int x3), (4, .int x4)] [] M) : ∀ (x3 : Int32) (x4 : Int32) (y0 : Int32), mX2_legsHitting_b94 k0 k1 M ih10 x3 x4 y0 = some vo → At p l e (rmO 1 0 0) s m args below meth c 0 0 (MQ below (Qg G kd ad s.heap.size M (some (.int vo))) args s 0 0 (AS kd ad s.heap.size)) G kd ad 6 94 [(0, .ref (ad k0)), (2, .ref (ad (k1 + 2))), (3, .int x3), (4, .int x4)] [.int y0] M := by
  intro x3 x4 y0 hf H locs ls hI hl
  obtain ⟨hx, hb, hml, hr, hown, hts, hlk, hK, hap, hsx⟩ := id C
  unfold mX2_legsHitting_b94 at hf
  refine lv_istore (lv' := [(5, .int y0), (0, .ref (ad k0)), (2, .ref (ad (k1 + 2))), (3, .int x3), (4, .int x4)]) hx hb (dc tbX2_legsHitting_1_k 20 rfl) hl (by decide) rfl (fun ls hl => ?_)
  refine lv_iload hx hb (dc tbX2_legsHitting_1_k 21 rfl) (lv_at hl 0 rfl) ?_
  refine lv_if_eq (tgt := 108) hx hb (dc tbX2_legsHitting_1_k 22 rfl) rfl (fun c9 => ?_) (fun c9 => ?_)
  · have hf := ite_t c9 hf
    exact tX2_legsHitting_b108 C hk0 hk1 hih10 x3 x4 hf _ _ _ hI (lv_sub hl [1, 2, 3, 4] rfl)
  · have hf := ite_f c9 hf
    refine lv_iload_n hx hb (dc tbX2_legsHitting_1_k 23 rfl) rfl (lv_at hl 3 rfl) ?_
    refine lv_iconst (v := 1) hx hb (dc tbX2_legsHitting_1_k 24 rfl) ic_1 ?_
    refine lv_iload hx hb (dc tbX2_legsHitting_1_k 25 rfl) (lv_at hl 4 rfl) ?_
    refine lv_ishl hx hb (dc tbX2_legsHitting_1_k 26 rfl) ?_
    refine lv_ior hx hb (dc tbX2_legsHitting_1_k 27 rfl) ?_
    obtain ⟨x3_107, e11, hf⟩ := bnd_s hf
    refine lv_ei e11 ?_
    refine lv_istore_n (lv' := [(3, .int x3_107), (5, .int y0), (0, .ref (ad k0)), (2, .ref (ad (k1 + 2))), (4, .int x4)]) hx hb (dc tbX2_legsHitting_1_k 28 rfl) rfl hl (by decide) rfl (fun ls hl => ?_)
    exact tX2_legsHitting_b108 C hk0 hk1 hih10 x3_107 x4 hf _ _ _ hI (lv_sub hl [2, 3, 0, 4] rfl)
def mX2_legsHitting_b89 (k0 : Nat) (k1 : Nat) (M : Mem) (ih10 : Int32 → Int32 → Option Int32) (x3 : Int32) (x4 : Int32) : Option Int32 := mX2_legsHitting_b94 k0 k1 M ih10 x3 x4 (1 : Int32)
set_option maxHeartbeats 4000000 in
set_option maxRecDepth 100000 in
theorem tX2_legsHitting_b89 {p : Program} {l : Launch} {e : Env} {s : State} {m : MethodId} {args : Array Value} {below : List Frame} {meth : Method} {c : Code} {G : GT} {kd : Nat → Nat × Nat} {ad : Nat → Nat} (C : Cx p s m args meth c cX2_legsHitting 6 (some .int) RX2 G kd ad) {k0 : Nat} {k1 : Nat} (hk0 : kPlaces kd k0) (hk1 : kPart kd k1) {M : Mem} {vo : Int32} {ih10 : Int32 → Int32 → Option Int32} (hih10 : ∀ (x3 : Int32) (x4 : Int32), ih10 x3 x4 = some vo → At p l e (rmO 1 0 0) s m args below meth c 0 0 (MQ below (Qg G kd ad s.heap.size M (some (.int vo))) args s 0 0 (AS kd ad s.heap.size)) G kd ad 6 10 [(0, .ref (ad k0)), (2, .ref (ad (k1 + 2))), (3, .int x3), (4, .int x4)] [] M) : ∀ (x3 : Int32) (x4 : Int32), mX2_legsHitting_b89 k0 k1 M ih10 x3 x4 = some vo → At p l e (rmO 1 0 0) s m args below meth c 0 0 (MQ below (Qg G kd ad s.heap.size M (some (.int vo))) args s 0 0 (AS kd ad s.heap.size)) G kd ad 6 89 [(0, .ref (ad k0)), (2, .ref (ad (k1 + 2))), (3, .int x3), (4, .int x4)] [] M := by
  intro x3 x4 hf H locs ls hI hl
  obtain ⟨hx, hb, hml, hr, hown, hts, hlk, hK, hap, hsx⟩ := id C
  unfold mX2_legsHitting_b89 at hf
  refine lv_iconst (v := 1) hx hb (dc tbX2_legsHitting_1_k 17 rfl) ic_1 ?_
  refine lv_goto (tgt := 94) hx hb (dc tbX2_legsHitting_1_k 18 rfl) rfl ?_
  exact tX2_legsHitting_b94 C hk0 hk1 hih10 x3 x4 (1 : Int32) hf _ _ _ hI (lv_sub hl [0, 1, 2, 3] rfl)
def mX2_legsHitting_b93 (k0 : Nat) (k1 : Nat) (M : Mem) (ih10 : Int32 → Int32 → Option Int32) (x3 : Int32) (x4 : Int32) : Option Int32 := mX2_legsHitting_b94 k0 k1 M ih10 x3 x4 (0 : Int32)
set_option maxHeartbeats 4000000 in
set_option maxRecDepth 100000 in
theorem tX2_legsHitting_b93 {p : Program} {l : Launch} {e : Env} {s : State} {m : MethodId} {args : Array Value} {below : List Frame} {meth : Method} {c : Code} {G : GT} {kd : Nat → Nat × Nat} {ad : Nat → Nat} (C : Cx p s m args meth c cX2_legsHitting 6 (some .int) RX2 G kd ad) {k0 : Nat} {k1 : Nat} (hk0 : kPlaces kd k0) (hk1 : kPart kd k1) {M : Mem} {vo : Int32} {ih10 : Int32 → Int32 → Option Int32} (hih10 : ∀ (x3 : Int32) (x4 : Int32), ih10 x3 x4 = some vo → At p l e (rmO 1 0 0) s m args below meth c 0 0 (MQ below (Qg G kd ad s.heap.size M (some (.int vo))) args s 0 0 (AS kd ad s.heap.size)) G kd ad 6 10 [(0, .ref (ad k0)), (2, .ref (ad (k1 + 2))), (3, .int x3), (4, .int x4)] [] M) : ∀ (x3 : Int32) (x4 : Int32), mX2_legsHitting_b93 k0 k1 M ih10 x3 x4 = some vo → At p l e (rmO 1 0 0) s m args below meth c 0 0 (MQ below (Qg G kd ad s.heap.size M (some (.int vo))) args s 0 0 (AS kd ad s.heap.size)) G kd ad 6 93 [(0, .ref (ad k0)), (2, .ref (ad (k1 + 2))), (3, .int x3), (4, .int x4)] [] M := by
  intro x3 x4 hf H locs ls hI hl
  obtain ⟨hx, hb, hml, hr, hown, hts, hlk, hK, hap, hsx⟩ := id C
  unfold mX2_legsHitting_b93 at hf
  refine lv_iconst (v := 0) hx hb (dc tbX2_legsHitting_1_k 19 rfl) ic_0 ?_
  exact tX2_legsHitting_b94 C hk0 hk1 hih10 x3 x4 (0 : Int32) hf _ _ _ hI (lv_sub hl [0, 1, 2, 3] rfl)
def mX2_legsHitting_b10 (k0 : Nat) (k1 : Nat) (M : Mem) (ih10 : Int32 → Int32 → Option Int32) (x3 : Int32) (x4 : Int32) : Option Int32 := ite2 ((rd M k0 6) ≤ x4) (some x3) (ite2 ((9 : Int32) ≤ x4) (some x3) (chk (okb (0 : Int32) 10) (chk (okb (1 : Int32) 10) (cap (mX2_enters k0 x4 (-(rd M (k1 + 2) ((0 : Int32)).toNatClampNeg)) (0 : Int32) (0 : Int32) (rd M (k1 + 2) ((1 : Int32)).toNatClampNeg) M) (fun r6 => ite2 (r6 = 0) (chk (okb (2 : Int32) 10) (chk (okb (3 : Int32) 10) (cap (mX2_enters k0 x4 (-(rd M (k1 + 2) ((2 : Int32)).toNatClampNeg)) (0 : Int32) (-(rd M (k1 + 2) ((3 : Int32)).toNatClampNeg)) (0 : Int32) M) (fun r15 => ite2 (r15 = 0) (cap (mX2_isClamped k0 x4 M) (fun r19 => ite2 (r19 = 0) (chk (okb (4 : Int32) 10) (chk (okb (5 : Int32) 10) (cap (mX2_enters k0 x4 (0 : Int32) (rd M (k1 + 2) ((4 : Int32)).toNatClampNeg) (0 : Int32) (rd M (k1 + 2) ((5 : Int32)).toNatClampNeg) M) (fun r25 => ite2 (r25 = 0) (mX2_legsHitting_b93 k0 k1 M ih10 x3 x4) (mX2_legsHitting_b89 k0 k1 M ih10 x3 x4))))) (mX2_legsHitting_b93 k0 k1 M ih10 x3 x4))) (mX2_legsHitting_b89 k0 k1 M ih10 x3 x4))))) (mX2_legsHitting_b89 k0 k1 M ih10 x3 x4))))))
set_option maxHeartbeats 4000000 in
set_option maxRecDepth 100000 in
theorem tX2_legsHitting_b10 {p : Program} {l : Launch} {e : Env} {s : State} {m : MethodId} {args : Array Value} {below : List Frame} {meth : Method} {c : Code} {G : GT} {kd : Nat → Nat × Nat} {ad : Nat → Nat} (C : Cx p s m args meth c cX2_legsHitting 6 (some .int) RX2 G kd ad) {k0 : Nat} {k1 : Nat} (hk0 : kPlaces kd k0) (hk1 : kPart kd k1) {M : Mem} {vo : Int32} {ih10 : Int32 → Int32 → Option Int32} (hih10 : ∀ (x3 : Int32) (x4 : Int32), ih10 x3 x4 = some vo → At p l e (rmO 1 0 0) s m args below meth c 0 0 (MQ below (Qg G kd ad s.heap.size M (some (.int vo))) args s 0 0 (AS kd ad s.heap.size)) G kd ad 6 10 [(0, .ref (ad k0)), (2, .ref (ad (k1 + 2))), (3, .int x3), (4, .int x4)] [] M) : ∀ (x3 : Int32) (x4 : Int32), mX2_legsHitting_b10 k0 k1 M ih10 x3 x4 = some vo → At p l e (rmO 1 0 0) s m args below meth c 0 0 (MQ below (Qg G kd ad s.heap.size M (some (.int vo))) args s 0 0 (AS kd ad s.heap.size)) G kd ad 6 10 [(0, .ref (ad k0)), (2, .ref (ad (k1 + 2))), (3, .int x3), (4, .int x4)] [] M := by
  intro x3 x4 hf H locs ls hI hl
  obtain ⟨hx, hb, hml, hr, hown, hts, hlk, hK, hap, hsx⟩ := id C
  unfold mX2_legsHitting_b10 at hf
  refine lv_iload hx hb (dc tbX2_legsHitting_0_k 7 rfl) (lv_at hl 3 rfl) ?_
  refine lv_aload_n hx hb (dc tbX2_legsHitting_0_k 8 rfl) rfl (lv_at hl 0 rfl) ?_
  refine gg2_6 hx hb hts hown hK hI hk0.1 q_t1_208 (dc tbX2_legsHitting_0_k 9 rfl) ?_
  refine lv_icmp_ge (tgt := 114) hx hb (dc tbX2_legsHitting_0_k 10 rfl) rfl (fun c1 => ?_) (fun c1 => ?_)
  · have hf := ite_t c1 hf
    refine lv_iload_n hx hb (dc tbX2_legsHitting_1_k 31 rfl) rfl (lv_at hl 2 rfl) ?_
    cases hf
    exact g_iret hx hb hr hlk hI (dc tbX2_legsHitting_1_k 32 rfl)
  · have hf := ite_f c1 hf
    refine lv_iload hx hb (dc tbX2_legsHitting_0_k 11 rfl) (lv_at hl 3 rfl) ?_
    refine lv_bipush (v := 9) hx hb (dc tbX2_legsHitting_0_k 12 rfl) bp_9 ?_
    refine lv_icmp_ge (tgt := 114) hx hb (dc tbX2_legsHitting_0_k 13 rfl) rfl (fun c2 => ?_) (fun c2 => ?_)
    · have hf := ite_t c2 hf
      refine lv_iload_n hx hb (dc tbX2_legsHitting_1_k 31 rfl) rfl (lv_at hl 2 rfl) ?_
      cases hf
      exact g_iret hx hb hr hlk hI (dc tbX2_legsHitting_1_k 32 rfl)
    · have hf := ite_f c2 hf
      refine lv_aload_n hx hb (dc tbX2_legsHitting_0_k 14 rfl) rfl (lv_at hl 0 rfl) ?_
      refine lv_iload hx hb (dc tbX2_legsHitting_0_k 15 rfl) (lv_at hl 3 rfl) ?_
      refine lv_aload_n hx hb (dc tbX2_legsHitting_0_k 16 rfl) rfl (lv_at hl 1 rfl) ?_
      refine lv_iconst (v := 0) hx hb (dc tbX2_legsHitting_0_k 17 rfl) ic_0 ?_
      obtain ⟨h3, hf⟩ := chk_s hf
      refine g_iald hx hb hK hI hk1.2.2.1 (okb_in h3) (dc tbX2_legsHitting_0_k 18 rfl) ?_
      refine lv_ineg hx hb (dc tbX2_legsHitting_0_k 19 rfl) ?_
      refine lv_iconst (v := 0) hx hb (dc tbX2_legsHitting_0_k 20 rfl) ic_0 ?_
      refine lv_iconst (v := 0) hx hb (dc tbX2_legsHitting_0_k 21 rfl) ic_0 ?_
      refine lv_aload_n hx hb (dc tbX2_legsHitting_0_k 22 rfl) rfl (lv_at hl 1 rfl) ?_
      refine lv_iconst (v := 1) hx hb (dc tbX2_legsHitting_0_k 23 rfl) ic_1 ?_
      obtain ⟨h4, hf⟩ := chk_s hf
      refine g_iald hx hb hK hI hk1.2.2.1 (okb_in h4) (dc tbX2_legsHitting_0_k 24 rfl) ?_
      obtain ⟨r6, q5, hf⟩ := cap_s hf
      refine g_callVi hx hb hml hown hts hK hap hsx hI (tX2_enters l hk0 q5 H.size) cv_X2_enters q_t3_46 rfl rfl ⟨Nat.le_of_ble_eq_true rfl, Nat.le_of_ble_eq_true rfl⟩ hk0.1 (by simp) rfl rfl rfl hl.1 rfl (Nat.le_of_ble_eq_true rfl) (dc tbX2_legsHitting_0_k 25 rfl) ⟨Nat.le_of_ble_eq_true rfl, Nat.le_of_ble_eq_true rfl⟩ (fun H locs hI => ?_)
      refine lv_if_ne (tgt := 89) hx hb (dc tbX2_legsHitting_0_k 26 rfl) rfl (fun c8 => ?_) (fun c8 => ?_)
      · have hf := ite_f c8 hf
        exact tX2_legsHitting_b89 C hk0 hk1 hih10 x3 x4 hf _ _ _ hI (lv_sub hl [0, 1, 2, 3] rfl)
      · have hf := ite_t c8 hf
        refine lv_aload_n hx hb (dc tbX2_legsHitting_0_k 27 rfl) rfl (lv_at hl 0 rfl) ?_
        refine lv_iload hx hb (dc tbX2_legsHitting_0_k 28 rfl) (lv_at hl 3 rfl) ?_
        refine lv_aload_n hx hb (dc tbX2_legsHitting_0_k 29 rfl) rfl (lv_at hl 1 rfl) ?_
        refine lv_iconst (v := 2) hx hb (dc tbX2_legsHitting_0_k 30 rfl) ic_2 ?_
        obtain ⟨h12, hf⟩ := chk_s hf
        refine g_iald hx hb hK hI hk1.2.2.1 (okb_in h12) (dc tbX2_legsHitting_0_k 31 rfl) ?_
        refine lv_ineg hx hb (dc tbX2_legsHitting_0_k 32 rfl) ?_
        refine lv_iconst (v := 0) hx hb (dc tbX2_legsHitting_0_k 33 rfl) ic_0 ?_
        refine lv_aload_n hx hb (dc tbX2_legsHitting_0_k 34 rfl) rfl (lv_at hl 1 rfl) ?_
        refine lv_iconst (v := 3) hx hb (dc tbX2_legsHitting_0_k 35 rfl) ic_3 ?_
        obtain ⟨h13, hf⟩ := chk_s hf
        refine g_iald hx hb hK hI hk1.2.2.1 (okb_in h13) (dc tbX2_legsHitting_0_k 36 rfl) ?_
        refine lv_ineg hx hb (dc tbX2_legsHitting_0_k 37 rfl) ?_
        refine lv_iconst (v := 0) hx hb (dc tbX2_legsHitting_0_k 38 rfl) ic_0 ?_
        obtain ⟨r15, q14, hf⟩ := cap_s hf
        refine g_callVi hx hb hml hown hts hK hap hsx hI (tX2_enters l hk0 q14 H.size) cv_X2_enters q_t3_46 rfl rfl ⟨Nat.le_of_ble_eq_true rfl, Nat.le_of_ble_eq_true rfl⟩ hk0.1 (by simp) rfl rfl rfl hl.1 rfl (Nat.le_of_ble_eq_true rfl) (dc tbX2_legsHitting_0_k 39 rfl) ⟨Nat.le_of_ble_eq_true rfl, Nat.le_of_ble_eq_true rfl⟩ (fun H locs hI => ?_)
        refine lv_if_ne (tgt := 89) hx hb (dc tbX2_legsHitting_1_k 0 rfl) rfl (fun c17 => ?_) (fun c17 => ?_)
        · have hf := ite_f c17 hf
          exact tX2_legsHitting_b89 C hk0 hk1 hih10 x3 x4 hf _ _ _ hI (lv_sub hl [0, 1, 2, 3] rfl)
        · have hf := ite_t c17 hf
          refine lv_aload_n hx hb (dc tbX2_legsHitting_1_k 1 rfl) rfl (lv_at hl 0 rfl) ?_
          refine lv_iload hx hb (dc tbX2_legsHitting_1_k 2 rfl) (lv_at hl 3 rfl) ?_
          obtain ⟨r19, q18, hf⟩ := cap_s hf
          refine g_callVi hx hb hml hown hts hK hap hsx hI (tX2_isClamped l hk0 q18 H.size) cv_X2_isClamped q_t3_38 rfl rfl ⟨Nat.le_of_ble_eq_true rfl, Nat.le_of_ble_eq_true rfl⟩ hk0.1 (by simp) rfl rfl rfl hl.1 rfl (Nat.le_of_ble_eq_true rfl) (dc tbX2_legsHitting_1_k 3 rfl) ⟨Nat.le_of_ble_eq_true rfl, Nat.le_of_ble_eq_true rfl⟩ (fun H locs hI => ?_)
          refine lv_if_ne (tgt := 93) hx hb (dc tbX2_legsHitting_1_k 4 rfl) rfl (fun c21 => ?_) (fun c21 => ?_)
          · have hf := ite_f c21 hf
            exact tX2_legsHitting_b93 C hk0 hk1 hih10 x3 x4 hf _ _ _ hI (lv_sub hl [0, 1, 2, 3] rfl)
          · have hf := ite_t c21 hf
            refine lv_aload_n hx hb (dc tbX2_legsHitting_1_k 5 rfl) rfl (lv_at hl 0 rfl) ?_
            refine lv_iload hx hb (dc tbX2_legsHitting_1_k 6 rfl) (lv_at hl 3 rfl) ?_
            refine lv_iconst (v := 0) hx hb (dc tbX2_legsHitting_1_k 7 rfl) ic_0 ?_
            refine lv_aload_n hx hb (dc tbX2_legsHitting_1_k 8 rfl) rfl (lv_at hl 1 rfl) ?_
            refine lv_iconst (v := 4) hx hb (dc tbX2_legsHitting_1_k 9 rfl) ic_4 ?_
            obtain ⟨h22, hf⟩ := chk_s hf
            refine g_iald hx hb hK hI hk1.2.2.1 (okb_in h22) (dc tbX2_legsHitting_1_k 10 rfl) ?_
            refine lv_iconst (v := 0) hx hb (dc tbX2_legsHitting_1_k 11 rfl) ic_0 ?_
            refine lv_aload_n hx hb (dc tbX2_legsHitting_1_k 12 rfl) rfl (lv_at hl 1 rfl) ?_
            refine lv_iconst (v := 5) hx hb (dc tbX2_legsHitting_1_k 13 rfl) ic_5 ?_
            obtain ⟨h23, hf⟩ := chk_s hf
            refine g_iald hx hb hK hI hk1.2.2.1 (okb_in h23) (dc tbX2_legsHitting_1_k 14 rfl) ?_
            obtain ⟨r25, q24, hf⟩ := cap_s hf
            refine g_callVi hx hb hml hown hts hK hap hsx hI (tX2_enters l hk0 q24 H.size) cv_X2_enters q_t3_46 rfl rfl ⟨Nat.le_of_ble_eq_true rfl, Nat.le_of_ble_eq_true rfl⟩ hk0.1 (by simp) rfl rfl rfl hl.1 rfl (Nat.le_of_ble_eq_true rfl) (dc tbX2_legsHitting_1_k 15 rfl) ⟨Nat.le_of_ble_eq_true rfl, Nat.le_of_ble_eq_true rfl⟩ (fun H locs hI => ?_)
            refine lv_if_eq (tgt := 93) hx hb (dc tbX2_legsHitting_1_k 16 rfl) rfl (fun c27 => ?_) (fun c27 => ?_)
            · have hf := ite_t c27 hf
              exact tX2_legsHitting_b93 C hk0 hk1 hih10 x3 x4 hf _ _ _ hI (lv_sub hl [0, 1, 2, 3] rfl)
            · have hf := ite_f c27 hf
              exact tX2_legsHitting_b89 C hk0 hk1 hih10 x3 x4 hf _ _ _ hI (lv_sub hl [0, 1, 2, 3] rfl)
def mX2_legsHitting_l10 (k0 : Nat) (k1 : Nat) (M : Mem) : Nat → Int32 → Int32 → Option Int32
  | 0 => fun _ _ => none
  | n + 1 => mX2_legsHitting_b10 k0 k1 M (mX2_legsHitting_l10 k0 k1 M n)
theorem tX2_legsHitting_l10 {p : Program} {l : Launch} {e : Env} {s : State} {m : MethodId} {args : Array Value} {below : List Frame} {meth : Method} {c : Code} {G : GT} {kd : Nat → Nat × Nat} {ad : Nat → Nat} (C : Cx p s m args meth c cX2_legsHitting 6 (some .int) RX2 G kd ad) {k0 : Nat} {k1 : Nat} (hk0 : kPlaces kd k0) (hk1 : kPart kd k1) {M : Mem} {vo : Int32}   : ∀ (fuel : Nat) (x3 : Int32) (x4 : Int32), mX2_legsHitting_l10 k0 k1 M fuel x3 x4 = some vo → At p l e (rmO 1 0 0) s m args below meth c 0 0 (MQ below (Qg G kd ad s.heap.size M (some (.int vo))) args s 0 0 (AS kd ad s.heap.size)) G kd ad 6 10 [(0, .ref (ad k0)), (2, .ref (ad (k1 + 2))), (3, .int x3), (4, .int x4)] [] M := by
  intro fuel
  induction fuel with
  | zero => intro x3 x4 hf; cases hf
  | succ n IH => exact tX2_legsHitting_b10 C hk0 hk1 IH
def mX2_legsHitting (k0 : Nat) (k1 : Nat) (M : Mem) : Option Int32 := mX2_legsHitting_l10 k0 k1 M 5000 (0 : Int32) (0 : Int32)
set_option maxHeartbeats 4000000 in
set_option maxRecDepth 100000 in
theorem tX2_legsHitting (l : Launch) {G : GT} {kd : Nat → Nat × Nat} {ad : Nat → Nat} {k0 : Nat} {k1 : Nat} (hk0 : kPlaces kd k0) (hk1 : kPart kd k1) {M : Mem} {vo : Int32} (hf : mX2_legsHitting k0 k1 M = some vo) (n : Nat) : Met l yX2_legsHitting (Cond.code yX2_legsHitting cX2_legsHitting 6 (some .int) :: WA) (rmO 1 0 0) (Pg G kd ad n [.ref (ad k0), .ref (ad k1)] M) (Qg G kd ad n M (some (.int vo))) 0 0 (AS kd ad n) := by
  refine g_body (own := RX2) (by decide) rfl ?_ (Nat.le_of_ble_eq_true rfl)
  intro p e s m args below meth c C _ H locs ls hI hl
  obtain ⟨hx, hb, hml, hr, hown, hts, hlk, hK, hap, hsx⟩ := id C
  have hl : lv_has ls 6 [(0, .ref (ad k0)), (1, .ref (ad k1))] := hl
  unfold mX2_legsHitting at hf
  refine lv_aload_n hx hb (dc tbX2_legsHitting_0_k 0 rfl) rfl (lv_at hl 1 rfl) ?_
  refine gg1_6 hx hb hts hown hK hI hk1.1 q_t1_116 (dc tbX2_legsHitting_0_k 1 rfl) ?_
  refine lv_astore_n (lv' := [(2, .ref (ad (k1 + 2))), (0, .ref (ad k0)), (1, .ref (ad k1))]) hx hb (dc tbX2_legsHitting_0_k 2 rfl) rfl hl (by decide) rfl (fun ls hl => ?_)
  refine lv_iconst (v := 0) hx hb (dc tbX2_legsHitting_0_k 3 rfl) ic_0 ?_
  refine lv_istore_n (lv' := [(3, .int (0 : Int32)), (2, .ref (ad (k1 + 2))), (0, .ref (ad k0)), (1, .ref (ad k1))]) hx hb (dc tbX2_legsHitting_0_k 4 rfl) rfl hl (by decide) rfl (fun ls hl => ?_)
  refine lv_iconst (v := 0) hx hb (dc tbX2_legsHitting_0_k 5 rfl) ic_0 ?_
  refine lv_istore (lv' := [(4, .int (0 : Int32)), (3, .int (0 : Int32)), (2, .ref (ad (k1 + 2))), (0, .ref (ad k0)), (1, .ref (ad k1))]) hx hb (dc tbX2_legsHitting_0_k 6 rfl) hl (by decide) rfl (fun ls hl => ?_)
  exact tX2_legsHitting_l10 C hk0 hk1 5000 (0 : Int32) (0 : Int32) hf _ _ _ hI (lv_sub hl [3, 2, 1, 0] rfl)
theorem cv_X2_legsHitting : cvF RX2 yX2_legsHitting cX2_legsHitting 6 (some .int) 1 := ⟨q_t3_43, q_t3_44, q_t1_5, q_t3_45, by decide +kernel⟩
def mX2_touch (k0 : Nat) (x1 : Int32) (x2 : Int32) (M : Mem) : Option Int32 := chk (okb x1 9) (chk (okb x2 9) (ite2 ((rd M (k0 + 4) (x2).toNatClampNeg) < (rd M (k0 + 3) (x1).toNatClampNeg)) (some (0 : Int32)) (chk (okb x2 9) (chk (okb x1 9) (ite2 ((rd M (k0 + 4) (x1).toNatClampNeg) < (rd M (k0 + 3) (x2).toNatClampNeg)) (some (0 : Int32)) (chk (okb x1 9) (chk (okb x2 9) (ite2 ((rd M (k0 + 6) (x2).toNatClampNeg) < (rd M (k0 + 5) (x1).toNatClampNeg)) (some (0 : Int32)) (chk (okb x2 9) (chk (okb x1 9) (ite2 ((rd M (k0 + 6) (x1).toNatClampNeg) < (rd M (k0 + 5) (x2).toNatClampNeg)) (some (0 : Int32)) (some (1 : Int32)))))))))))))
set_option maxHeartbeats 4000000 in
set_option maxRecDepth 100000 in
theorem tX2_touch (l : Launch) {G : GT} {kd : Nat → Nat × Nat} {ad : Nat → Nat} {k0 : Nat} (hk0 : kPlaces kd k0) {x1 : Int32} {x2 : Int32} {M : Mem} {vo : Int32} (hf : mX2_touch k0 x1 x2 M = some vo) (n : Nat) : Met l yX2_touch (Cond.code yX2_touch cX2_touch 3 (some .boolean) :: WA) (rmO 0 0 0) (Pg G kd ad n [.ref (ad k0), .int x1, .int x2] M) (Qg G kd ad n M (some (.int vo))) 0 0 (AS kd ad n) := by
  refine g_body (own := RX2) (by decide) rfl ?_ (Nat.le_of_ble_eq_true rfl)
  intro p e s m args below meth c C _ H locs ls hI hl
  obtain ⟨hx, hb, hml, hr, hown, hts, hlk, hK, hap, hsx⟩ := id C
  have hl : lv_has ls 3 [(0, .ref (ad k0)), (1, .int x1), (2, .int x2)] := hl
  unfold mX2_touch at hf
  refine lv_aload_n hx hb (dc tbX2_touch_k 0 rfl) rfl (lv_at hl 0 rfl) ?_
  refine gg2_2 hx hb hts hown hK hI hk0.1 q_t1_204 (dc tbX2_touch_k 1 rfl) ?_
  refine lv_iload_n hx hb (dc tbX2_touch_k 2 rfl) rfl (lv_at hl 1 rfl) ?_
  obtain ⟨h1, hf⟩ := chk_s hf
  refine g_iald hx hb hK hI hk0.2.2.2.1 (okb_in h1) (dc tbX2_touch_k 3 rfl) ?_
  refine lv_aload_n hx hb (dc tbX2_touch_k 4 rfl) rfl (lv_at hl 0 rfl) ?_
  refine gg2_3 hx hb hts hown hK hI hk0.1 q_t1_205 (dc tbX2_touch_k 5 rfl) ?_
  refine lv_iload_n hx hb (dc tbX2_touch_k 6 rfl) rfl (lv_at hl 2 rfl) ?_
  obtain ⟨h2, hf⟩ := chk_s hf
  refine g_iald hx hb hK hI hk0.2.2.2.2.1 (okb_in h2) (dc tbX2_touch_k 7 rfl) ?_
  refine lv_icmp_gt (tgt := 64) hx hb (dc tbX2_touch_k 8 rfl) rfl (fun c3 => ?_) (fun c3 => ?_)
  · have hf := ite_t c3 hf
    refine lv_iconst (v := 0) hx hb (dc tbX2_touch_k 38 rfl) ic_0 ?_
    cases hf
    exact g_zret hx hb hr hlk hI rfl (dc tbX2_touch_k 39 rfl)
  · have hf := ite_f c3 hf
    refine lv_aload_n hx hb (dc tbX2_touch_k 9 rfl) rfl (lv_at hl 0 rfl) ?_
    refine gg2_2 hx hb hts hown hK hI hk0.1 q_t1_204 (dc tbX2_touch_k 10 rfl) ?_
    refine lv_iload_n hx hb (dc tbX2_touch_k 11 rfl) rfl (lv_at hl 2 rfl) ?_
    obtain ⟨h4, hf⟩ := chk_s hf
    refine g_iald hx hb hK hI hk0.2.2.2.1 (okb_in h4) (dc tbX2_touch_k 12 rfl) ?_
    refine lv_aload_n hx hb (dc tbX2_touch_k 13 rfl) rfl (lv_at hl 0 rfl) ?_
    refine gg2_3 hx hb hts hown hK hI hk0.1 q_t1_205 (dc tbX2_touch_k 14 rfl) ?_
    refine lv_iload_n hx hb (dc tbX2_touch_k 15 rfl) rfl (lv_at hl 1 rfl) ?_
    obtain ⟨h5, hf⟩ := chk_s hf
    refine g_iald hx hb hK hI hk0.2.2.2.2.1 (okb_in h5) (dc tbX2_touch_k 16 rfl) ?_
    refine lv_icmp_gt (tgt := 64) hx hb (dc tbX2_touch_k 17 rfl) rfl (fun c6 => ?_) (fun c6 => ?_)
    · have hf := ite_t c6 hf
      refine lv_iconst (v := 0) hx hb (dc tbX2_touch_k 38 rfl) ic_0 ?_
      cases hf
      exact g_zret hx hb hr hlk hI rfl (dc tbX2_touch_k 39 rfl)
    · have hf := ite_f c6 hf
      refine lv_aload_n hx hb (dc tbX2_touch_k 18 rfl) rfl (lv_at hl 0 rfl) ?_
      refine gg2_4 hx hb hts hown hK hI hk0.1 q_t1_206 (dc tbX2_touch_k 19 rfl) ?_
      refine lv_iload_n hx hb (dc tbX2_touch_k 20 rfl) rfl (lv_at hl 1 rfl) ?_
      obtain ⟨h7, hf⟩ := chk_s hf
      refine g_iald hx hb hK hI hk0.2.2.2.2.2.1 (okb_in h7) (dc tbX2_touch_k 21 rfl) ?_
      refine lv_aload_n hx hb (dc tbX2_touch_k 22 rfl) rfl (lv_at hl 0 rfl) ?_
      refine gg2_5 hx hb hts hown hK hI hk0.1 q_t1_207 (dc tbX2_touch_k 23 rfl) ?_
      refine lv_iload_n hx hb (dc tbX2_touch_k 24 rfl) rfl (lv_at hl 2 rfl) ?_
      obtain ⟨h8, hf⟩ := chk_s hf
      refine g_iald hx hb hK hI hk0.2.2.2.2.2.2 (okb_in h8) (dc tbX2_touch_k 25 rfl) ?_
      refine lv_icmp_gt (tgt := 64) hx hb (dc tbX2_touch_k 26 rfl) rfl (fun c9 => ?_) (fun c9 => ?_)
      · have hf := ite_t c9 hf
        refine lv_iconst (v := 0) hx hb (dc tbX2_touch_k 38 rfl) ic_0 ?_
        cases hf
        exact g_zret hx hb hr hlk hI rfl (dc tbX2_touch_k 39 rfl)
      · have hf := ite_f c9 hf
        refine lv_aload_n hx hb (dc tbX2_touch_k 27 rfl) rfl (lv_at hl 0 rfl) ?_
        refine gg2_4 hx hb hts hown hK hI hk0.1 q_t1_206 (dc tbX2_touch_k 28 rfl) ?_
        refine lv_iload_n hx hb (dc tbX2_touch_k 29 rfl) rfl (lv_at hl 2 rfl) ?_
        obtain ⟨h10, hf⟩ := chk_s hf
        refine g_iald hx hb hK hI hk0.2.2.2.2.2.1 (okb_in h10) (dc tbX2_touch_k 30 rfl) ?_
        refine lv_aload_n hx hb (dc tbX2_touch_k 31 rfl) rfl (lv_at hl 0 rfl) ?_
        refine gg2_5 hx hb hts hown hK hI hk0.1 q_t1_207 (dc tbX2_touch_k 32 rfl) ?_
        refine lv_iload_n hx hb (dc tbX2_touch_k 33 rfl) rfl (lv_at hl 1 rfl) ?_
        obtain ⟨h11, hf⟩ := chk_s hf
        refine g_iald hx hb hK hI hk0.2.2.2.2.2.2 (okb_in h11) (dc tbX2_touch_k 34 rfl) ?_
        refine lv_icmp_gt (tgt := 64) hx hb (dc tbX2_touch_k 35 rfl) rfl (fun c12 => ?_) (fun c12 => ?_)
        · have hf := ite_t c12 hf
          refine lv_iconst (v := 0) hx hb (dc tbX2_touch_k 38 rfl) ic_0 ?_
          cases hf
          exact g_zret hx hb hr hlk hI rfl (dc tbX2_touch_k 39 rfl)
        · have hf := ite_f c12 hf
          refine lv_iconst (v := 1) hx hb (dc tbX2_touch_k 36 rfl) ic_1 ?_
          refine lv_goto (tgt := 65) hx hb (dc tbX2_touch_k 37 rfl) rfl ?_
          cases hf
          exact g_zret hx hb hr hlk hI rfl (dc tbX2_touch_k 39 rfl)
theorem cv_X2_touch : cvF RX2 yX2_touch cX2_touch 3 (some .boolean) 2 := ⟨q_t2_222, q_s1_4, q_t1_5, q_t2_223, by decide +kernel⟩
def mX2_crossesItself_b18 (k0 : Nat) (M : Mem) (ih2 : Int32 → Option Int32) (ih18 : Int32 → Int32 → Option Int32) (x1 : Int32) (x2 : Int32) : Option Int32 := ite2 ((x1 - (1 : Int32)) ≤ x2) (bnd (x1 + (1 : Int32)) (fun x1_42 => ih2 x1_42)) (cap (mX2_touch k0 x1 x2 M) (fun r6 => ite2 (r6 = 0) (bnd (x2 + (1 : Int32)) (fun x2_36 => ih18 x1 x2_36)) (some (1 : Int32))))
set_option maxHeartbeats 4000000 in
set_option maxRecDepth 100000 in
theorem tX2_crossesItself_b18 {p : Program} {l : Launch} {e : Env} {s : State} {m : MethodId} {args : Array Value} {below : List Frame} {meth : Method} {c : Code} {G : GT} {kd : Nat → Nat × Nat} {ad : Nat → Nat} (C : Cx p s m args meth c cX2_crossesItself 3 (some .boolean) RX2 G kd ad) {k0 : Nat} (hk0 : kPlaces kd k0) {M : Mem} {vo : Int32} {ih2 : Int32 → Option Int32} {ih18 : Int32 → Int32 → Option Int32} (hih2 : ∀ (x1 : Int32), ih2 x1 = some vo → At p l e (rmO 1 0 0) s m args below meth c 0 0 (MQ below (Qg G kd ad s.heap.size M (some (.int vo))) args s 0 0 (AS kd ad s.heap.size)) G kd ad 3 2 [(0, .ref (ad k0)), (1, .int x1)] [] M) (hih18 : ∀ (x1 : Int32) (x2 : Int32), ih18 x1 x2 = some vo → At p l e (rmO 1 0 0) s m args below meth c 0 0 (MQ below (Qg G kd ad s.heap.size M (some (.int vo))) args s 0 0 (AS kd ad s.heap.size)) G kd ad 3 18 [(0, .ref (ad k0)), (1, .int x1), (2, .int x2)] [] M) : ∀ (x1 : Int32) (x2 : Int32), mX2_crossesItself_b18 k0 M ih2 ih18 x1 x2 = some vo → At p l e (rmO 1 0 0) s m args below meth c 0 0 (MQ below (Qg G kd ad s.heap.size M (some (.int vo))) args s 0 0 (AS kd ad s.heap.size)) G kd ad 3 18 [(0, .ref (ad k0)), (1, .int x1), (2, .int x2)] [] M := by
  intro x1 x2 hf H locs ls hI hl
  obtain ⟨hx, hb, hml, hr, hown, hts, hlk, hK, hap, hsx⟩ := id C
  unfold mX2_crossesItself_b18 at hf
  refine lv_iload_n hx hb (dc tbX2_crossesItself_k 11 rfl) rfl (lv_at hl 2 rfl) ?_
  refine lv_iload_n hx hb (dc tbX2_crossesItself_k 12 rfl) rfl (lv_at hl 1 rfl) ?_
  refine lv_iconst (v := 1) hx hb (dc tbX2_crossesItself_k 13 rfl) ic_1 ?_
  refine lv_isub hx hb (dc tbX2_crossesItself_k 14 rfl) ?_
  refine lv_icmp_ge (tgt := 42) hx hb (dc tbX2_crossesItself_k 15 rfl) rfl (fun c3 => ?_) (fun c3 => ?_)
  · have hf := ite_t c3 hf
    obtain ⟨x1_42, e4, hf⟩ := bnd_s hf
    refine lv_iinc (v := x1_42) (lv' := [(1, .int x1_42), (0, .ref (ad k0)), (2, .int x2)]) hx hb (dc tbX2_crossesItself_k 25 rfl) hl (k := 1) rfl (ii_e e4 ic_1) (by decide) rfl (fun ls hl => ?_)
    refine lv_goto (tgt := 2) hx hb (dc tbX2_crossesItself_k 26 rfl) rfl ?_
    exact hih2 x1_42 hf _ _ _ hI (lv_sub hl [1, 0] rfl)
  · have hf := ite_f c3 hf
    refine lv_aload_n hx hb (dc tbX2_crossesItself_k 16 rfl) rfl (lv_at hl 0 rfl) ?_
    refine lv_iload_n hx hb (dc tbX2_crossesItself_k 17 rfl) rfl (lv_at hl 1 rfl) ?_
    refine lv_iload_n hx hb (dc tbX2_crossesItself_k 18 rfl) rfl (lv_at hl 2 rfl) ?_
    obtain ⟨r6, q5, hf⟩ := cap_s hf
    refine g_callVi hx hb hml hown hts hK hap hsx hI (tX2_touch l hk0 q5 H.size) cv_X2_touch q_t2_220 rfl rfl ⟨Nat.le_of_ble_eq_true rfl, Nat.le_of_ble_eq_true rfl⟩ hk0.1 (by simp) rfl rfl rfl hl.1 rfl (Nat.le_of_ble_eq_true rfl) (dc tbX2_crossesItself_k 19 rfl) ⟨Nat.le_of_ble_eq_true rfl, Nat.le_of_ble_eq_true rfl⟩ (fun H locs hI => ?_)
    refine lv_if_eq (tgt := 36) hx hb (dc tbX2_crossesItself_k 20 rfl) rfl (fun c8 => ?_) (fun c8 => ?_)
    · have hf := ite_t c8 hf
      obtain ⟨x2_36, e9, hf⟩ := bnd_s hf
      refine lv_iinc (v := x2_36) (lv' := [(2, .int x2_36), (0, .ref (ad k0)), (1, .int x1)]) hx hb (dc tbX2_crossesItself_k 23 rfl) hl (k := 2) rfl (ii_e e9 ic_1) (by decide) rfl (fun ls hl => ?_)
      refine lv_goto (tgt := 18) hx hb (dc tbX2_crossesItself_k 24 rfl) rfl ?_
      exact hih18 x1 x2_36 hf _ _ _ hI (lv_sub hl [1, 2, 0] rfl)
    · have hf := ite_f c8 hf
      refine lv_iconst (v := 1) hx hb (dc tbX2_crossesItself_k 21 rfl) ic_1 ?_
      cases hf
      exact g_zret hx hb hr hlk hI rfl (dc tbX2_crossesItself_k 22 rfl)
def mX2_crossesItself_l18 (k0 : Nat) (M : Mem) (ih2 : Int32 → Option Int32) : Nat → Int32 → Int32 → Option Int32
  | 0 => fun _ _ => none
  | n + 1 => mX2_crossesItself_b18 k0 M ih2 (mX2_crossesItself_l18 k0 M ih2 n)
theorem tX2_crossesItself_l18 {p : Program} {l : Launch} {e : Env} {s : State} {m : MethodId} {args : Array Value} {below : List Frame} {meth : Method} {c : Code} {G : GT} {kd : Nat → Nat × Nat} {ad : Nat → Nat} (C : Cx p s m args meth c cX2_crossesItself 3 (some .boolean) RX2 G kd ad) {k0 : Nat} (hk0 : kPlaces kd k0) {M : Mem} {vo : Int32} {ih2 : Int32 → Option Int32} (hih2 : ∀ (x1 : Int32), ih2 x1 = some vo → At p l e (rmO 1 0 0) s m args below meth c 0 0 (MQ below (Qg G kd ad s.heap.size M (some (.int vo))) args s 0 0 (AS kd ad s.heap.size)) G kd ad 3 2 [(0, .ref (ad k0)), (1, .int x1)] [] M) : ∀ (fuel : Nat) (x1 : Int32) (x2 : Int32), mX2_crossesItself_l18 k0 M ih2 fuel x1 x2 = some vo → At p l e (rmO 1 0 0) s m args below meth c 0 0 (MQ below (Qg G kd ad s.heap.size M (some (.int vo))) args s 0 0 (AS kd ad s.heap.size)) G kd ad 3 18 [(0, .ref (ad k0)), (1, .int x1), (2, .int x2)] [] M := by
  intro fuel
  induction fuel with
  | zero => intro x1 x2 hf; cases hf
  | succ n IH => exact tX2_crossesItself_b18 C hk0 hih2 IH
def mX2_crossesItself_b2 (k0 : Nat) (M : Mem) (ih2 : Int32 → Option Int32) (x1 : Int32) : Option Int32 := ite2 ((rd M k0 6) ≤ x1) (some (0 : Int32)) (ite2 ((9 : Int32) ≤ x1) (some (0 : Int32)) (mX2_crossesItself_l18 k0 M ih2 5000 x1 (0 : Int32)))
set_option maxHeartbeats 4000000 in
set_option maxRecDepth 100000 in
theorem tX2_crossesItself_b2 {p : Program} {l : Launch} {e : Env} {s : State} {m : MethodId} {args : Array Value} {below : List Frame} {meth : Method} {c : Code} {G : GT} {kd : Nat → Nat × Nat} {ad : Nat → Nat} (C : Cx p s m args meth c cX2_crossesItself 3 (some .boolean) RX2 G kd ad) {k0 : Nat} (hk0 : kPlaces kd k0) {M : Mem} {vo : Int32} {ih2 : Int32 → Option Int32} (hih2 : ∀ (x1 : Int32), ih2 x1 = some vo → At p l e (rmO 1 0 0) s m args below meth c 0 0 (MQ below (Qg G kd ad s.heap.size M (some (.int vo))) args s 0 0 (AS kd ad s.heap.size)) G kd ad 3 2 [(0, .ref (ad k0)), (1, .int x1)] [] M) : ∀ (x1 : Int32), mX2_crossesItself_b2 k0 M ih2 x1 = some vo → At p l e (rmO 1 0 0) s m args below meth c 0 0 (MQ below (Qg G kd ad s.heap.size M (some (.int vo))) args s 0 0 (AS kd ad s.heap.size)) G kd ad 3 2 [(0, .ref (ad k0)), (1, .int x1)] [] M := by
  intro x1 hf H locs ls hI hl
  obtain ⟨hx, hb, hml, hr, hown, hts, hlk, hK, hap, hsx⟩ := id C
  unfold mX2_crossesItself_b2 at hf
  refine lv_iload_n hx hb (dc tbX2_crossesItself_k 2 rfl) rfl (lv_at hl 1 rfl) ?_
  refine lv_aload_n hx hb (dc tbX2_crossesItself_k 3 rfl) rfl (lv_at hl 0 rfl) ?_
  refine gg2_6 hx hb hts hown hK hI hk0.1 q_t1_208 (dc tbX2_crossesItself_k 4 rfl) ?_
  refine lv_icmp_ge (tgt := 48) hx hb (dc tbX2_crossesItself_k 5 rfl) rfl (fun c1 => ?_) (fun c1 => ?_)
  · have hf := ite_t c1 hf
    refine lv_iconst (v := 0) hx hb (dc tbX2_crossesItself_k 27 rfl) ic_0 ?_
    cases hf
    exact g_zret hx hb hr hlk hI rfl (dc tbX2_crossesItself_k 28 rfl)
  · have hf := ite_f c1 hf
    refine lv_iload_n hx hb (dc tbX2_crossesItself_k 6 rfl) rfl (lv_at hl 1 rfl) ?_
    refine lv_bipush (v := 9) hx hb (dc tbX2_crossesItself_k 7 rfl) bp_9 ?_
    refine lv_icmp_ge (tgt := 48) hx hb (dc tbX2_crossesItself_k 8 rfl) rfl (fun c2 => ?_) (fun c2 => ?_)
    · have hf := ite_t c2 hf
      refine lv_iconst (v := 0) hx hb (dc tbX2_crossesItself_k 27 rfl) ic_0 ?_
      cases hf
      exact g_zret hx hb hr hlk hI rfl (dc tbX2_crossesItself_k 28 rfl)
    · have hf := ite_f c2 hf
      refine lv_iconst (v := 0) hx hb (dc tbX2_crossesItself_k 9 rfl) ic_0 ?_
      refine lv_istore_n (lv' := [(2, .int (0 : Int32)), (0, .ref (ad k0)), (1, .int x1)]) hx hb (dc tbX2_crossesItself_k 10 rfl) rfl hl (by decide) rfl (fun ls hl => ?_)
      exact tX2_crossesItself_l18 C hk0 hih2 5000 x1 (0 : Int32) hf _ _ _ hI (lv_sub hl [1, 2, 0] rfl)
def mX2_crossesItself_l2 (k0 : Nat) (M : Mem) : Nat → Int32 → Option Int32
  | 0 => fun _ => none
  | n + 1 => mX2_crossesItself_b2 k0 M (mX2_crossesItself_l2 k0 M n)
theorem tX2_crossesItself_l2 {p : Program} {l : Launch} {e : Env} {s : State} {m : MethodId} {args : Array Value} {below : List Frame} {meth : Method} {c : Code} {G : GT} {kd : Nat → Nat × Nat} {ad : Nat → Nat} (C : Cx p s m args meth c cX2_crossesItself 3 (some .boolean) RX2 G kd ad) {k0 : Nat} (hk0 : kPlaces kd k0) {M : Mem} {vo : Int32}   : ∀ (fuel : Nat) (x1 : Int32), mX2_crossesItself_l2 k0 M fuel x1 = some vo → At p l e (rmO 1 0 0) s m args below meth c 0 0 (MQ below (Qg G kd ad s.heap.size M (some (.int vo))) args s 0 0 (AS kd ad s.heap.size)) G kd ad 3 2 [(0, .ref (ad k0)), (1, .int x1)] [] M := by
  intro fuel
  induction fuel with
  | zero => intro x1 hf; cases hf
  | succ n IH => exact tX2_crossesItself_b2 C hk0 IH
def mX2_crossesItself (k0 : Nat) (M : Mem) : Option Int32 := mX2_crossesItself_l2 k0 M 5000 (2 : Int32)
set_option maxHeartbeats 4000000 in
set_option maxRecDepth 100000 in
theorem tX2_crossesItself (l : Launch) {G : GT} {kd : Nat → Nat × Nat} {ad : Nat → Nat} {k0 : Nat} (hk0 : kPlaces kd k0) {M : Mem} {vo : Int32} (hf : mX2_crossesItself k0 M = some vo) (n : Nat) : Met l yX2_crossesItself (Cond.code yX2_crossesItself cX2_crossesItself 3 (some .boolean) :: WA) (rmO 1 0 0) (Pg G kd ad n [.ref (ad k0)] M) (Qg G kd ad n M (some (.int vo))) 0 0 (AS kd ad n) := by
  refine g_body (own := RX2) (by decide) rfl ?_ (Nat.le_of_ble_eq_true rfl)
  intro p e s m args below meth c C _ H locs ls hI hl
  obtain ⟨hx, hb, hml, hr, hown, hts, hlk, hK, hap, hsx⟩ := id C
  have hl : lv_has ls 3 [(0, .ref (ad k0))] := hl
  unfold mX2_crossesItself at hf
  refine lv_iconst (v := 2) hx hb (dc tbX2_crossesItself_k 0 rfl) ic_2 ?_
  refine lv_istore_n (lv' := [(1, .int (2 : Int32)), (0, .ref (ad k0))]) hx hb (dc tbX2_crossesItself_k 1 rfl) rfl hl (by decide) rfl (fun ls hl => ?_)
  exact tX2_crossesItself_l2 C hk0 5000 (2 : Int32) hf _ _ _ hI (lv_sub hl [1, 0] rfl)
theorem cv_X2_crossesItself : cvF RX2 yX2_crossesItself cX2_crossesItself 3 (some .boolean) 0 := ⟨q_t2_217, q_t2_218, q_t1_5, q_t2_219, by decide +kernel⟩
def mX2_reasonFor_b20 (k0 : Nat) (k1 : Nat) (x2 : Int32) (x3 : Int32) (x4 : Int32) (y0 : Int32) (M : Mem) : Option (Mem × Int32) := ite2 (((x2 >>> (x4 &&& 31)) &&& (1 : Int32)) = 0) (ite2 (y0 < 0) (some (M, (2 : Int32))) (ite2 ((9 : Int32) ≤ y0) (some (M, (2 : Int32))) (chk (okb y0 9) (chk (okb (8 : Int32) 10) (ite2 ((rd M (k1 + 2) ((8 : Int32)).toNatClampNeg) ≤ (rd M (k1 + 1) (y0).toNatClampNeg)) (cal (mX2_layStep k0 k1 x2 x3 M) (fun M11 _ => cap (mX2_reachToBack k0 M11) (fun r13 => chk (okb (6 : Int32) 10) (ite2 (r13 < (rd M11 (k1 + 2) ((6 : Int32)).toNatClampNeg)) (some (M11, (3 : Int32))) (chk (okb (7 : Int32) 10) (ite2 (r13 ≤ (rd M11 (k1 + 2) ((7 : Int32)).toNatClampNeg)) (cap (mX2_legsHitting k0 k1 M11) (fun r20 => bnd ((((2 : Int32) <<< ((rd M11 k0 8) &&& 31)) - ((1 : Int32) <<< ((rd M11 k0 7) &&& 31)))) (fun x8_123 => ite2 ((r20 &&& x8_123) = 0) (ite2 (r20 = 0) (cap (mX2_crossesItself k0 M11) (fun r26 => ite2 (r26 = 0) (some (M11, (0 : Int32))) (some (M11, (6 : Int32))))) (some (M11, (5 : Int32)))) (some (M11, (4 : Int32)))))) (some (M11, (3 : Int32))))))))) (some (M, (2 : Int32)))))))) (some (M, (1 : Int32)))
set_option maxHeartbeats 4000000 in
set_option maxRecDepth 100000 in
theorem tX2_reasonFor_b20 {p : Program} {l : Launch} {e : Env} {s : State} {m : MethodId} {args : Array Value} {below : List Frame} {meth : Method} {c : Code} {G : GT} {kd : Nat → Nat × Nat} {ad : Nat → Nat} (C : Cx p s m args meth c cX2_reasonFor 9 (some .int) RX2 G kd ad) {k0 : Nat} {k1 : Nat} (hk0 : kPlaces kd k0) (hk1 : kPart kd k1) {MO : Mem} {vo : Int32}   : ∀ (x2 : Int32) (x3 : Int32) (x4 : Int32) (y0 : Int32) (M : Mem), mX2_reasonFor_b20 k0 k1 x2 x3 x4 y0 M = some (MO, vo) → At p l e (rmO 2 0 0) s m args below meth c 0 0 (MQ below (Qg G kd ad s.heap.size MO (some (.int vo))) args s 0 0 (AS kd ad s.heap.size)) G kd ad 9 20 [(0, .ref (ad k0)), (1, .ref (ad k1)), (2, .int x2), (3, .int x3), (4, .int x4)] [.int y0] M := by
  intro x2 x3 x4 y0 M hf H locs ls hI hl
  obtain ⟨hx, hb, hml, hr, hown, hts, hlk, hK, hap, hsx⟩ := id C
  unfold mX2_reasonFor_b20 at hf
  refine lv_istore (lv' := [(5, .int y0), (0, .ref (ad k0)), (1, .ref (ad k1)), (2, .int x2), (3, .int x3), (4, .int x4)]) hx hb (dc tbX2_reasonFor_0_k 13 rfl) hl (by decide) rfl (fun ls hl => ?_)
  refine lv_iload_n hx hb (dc tbX2_reasonFor_0_k 14 rfl) rfl (lv_at hl 3 rfl) ?_
  refine lv_iload hx hb (dc tbX2_reasonFor_0_k 15 rfl) (lv_at hl 5 rfl) ?_
  refine lv_ishr hx hb (dc tbX2_reasonFor_0_k 16 rfl) ?_
  refine lv_iconst (v := 1) hx hb (dc tbX2_reasonFor_0_k 17 rfl) ic_1 ?_
  refine lv_iand hx hb (dc tbX2_reasonFor_0_k 18 rfl) ?_
  refine lv_if_eq (tgt := 33) hx hb (dc tbX2_reasonFor_0_k 19 rfl) rfl (fun c3 => ?_) (fun c3 => ?_)
  · have hf := ite_t c3 hf
    refine lv_iload hx hb (dc tbX2_reasonFor_0_k 22 rfl) (lv_at hl 0 rfl) ?_
    refine lv_if_lt (tgt := 62) hx hb (dc tbX2_reasonFor_0_k 23 rfl) rfl (fun c4 => ?_) (fun c4 => ?_)
    · have hf := ite_t c4 hf
      refine lv_iconst (v := 2) hx hb (dc tbX2_reasonFor_0_k 36 rfl) ic_2 ?_
      cases hf
      exact g_iret hx hb hr hlk hI (dc tbX2_reasonFor_0_k 37 rfl)
    · have hf := ite_f c4 hf
      refine lv_iload hx hb (dc tbX2_reasonFor_0_k 24 rfl) (lv_at hl 0 rfl) ?_
      refine lv_bipush (v := 9) hx hb (dc tbX2_reasonFor_0_k 25 rfl) bp_9 ?_
      refine lv_icmp_ge (tgt := 62) hx hb (dc tbX2_reasonFor_0_k 26 rfl) rfl (fun c5 => ?_) (fun c5 => ?_)
      · have hf := ite_t c5 hf
        refine lv_iconst (v := 2) hx hb (dc tbX2_reasonFor_0_k 36 rfl) ic_2 ?_
        cases hf
        exact g_iret hx hb hr hlk hI (dc tbX2_reasonFor_0_k 37 rfl)
      · have hf := ite_f c5 hf
        refine lv_aload_n hx hb (dc tbX2_reasonFor_0_k 27 rfl) rfl (lv_at hl 2 rfl) ?_
        refine gg1_1 hx hb hts hown hK hI hk1.1 q_t1_106 (dc tbX2_reasonFor_0_k 28 rfl) ?_
        refine lv_iload hx hb (dc tbX2_reasonFor_0_k 29 rfl) (lv_at hl 0 rfl) ?_
        obtain ⟨h6, hf⟩ := chk_s hf
        refine g_iald hx hb hK hI hk1.2.1 (okb_in h6) (dc tbX2_reasonFor_0_k 30 rfl) ?_
        refine lv_aload_n hx hb (dc tbX2_reasonFor_0_k 31 rfl) rfl (lv_at hl 2 rfl) ?_
        refine gg1_6 hx hb hts hown hK hI hk1.1 q_t1_116 (dc tbX2_reasonFor_0_k 32 rfl) ?_
        refine lv_bipush (v := 8) hx hb (dc tbX2_reasonFor_0_k 33 rfl) bp_8 ?_
        obtain ⟨h7, hf⟩ := chk_s hf
        refine g_iald hx hb hK hI hk1.2.2.1 (okb_in h7) (dc tbX2_reasonFor_0_k 34 rfl) ?_
        refine lv_icmp_ge (tgt := 64) hx hb (dc tbX2_reasonFor_0_k 35 rfl) rfl (fun c8 => ?_) (fun c8 => ?_)
        · have hf := ite_t c8 hf
          refine lv_aload_n hx hb (dc tbX2_reasonFor_0_k 38 rfl) rfl (lv_at hl 1 rfl) ?_
          refine lv_aload_n hx hb (dc tbX2_reasonFor_0_k 39 rfl) rfl (lv_at hl 2 rfl) ?_
          refine lv_iload_n hx hb (dc tbX2_reasonFor_1_k 0 rfl) rfl (lv_at hl 3 rfl) ?_
          refine lv_iload_n hx hb (dc tbX2_reasonFor_1_k 1 rfl) rfl (lv_at hl 4 rfl) ?_
          obtain ⟨M11, r10, q9, hf⟩ := cal_s hf
          refine g_callVv hx hb hml hown hts hK hap hsx hI (tX2_layStep l hk0 hk1 q9 H.size) cv_X2_layStep q_t3_29 rfl rfl ⟨Nat.le_of_ble_eq_true rfl, Nat.le_of_ble_eq_true rfl⟩ hk0.1 (by simp) rfl rfl rfl hl.1 rfl (Nat.le_of_ble_eq_true rfl) (dc tbX2_reasonFor_1_k 2 rfl) ⟨Nat.le_of_ble_eq_true rfl, Nat.le_of_ble_eq_true rfl⟩ (fun H locs hI => ?_)
          refine lv_aload_n hx hb (dc tbX2_reasonFor_1_k 3 rfl) rfl (lv_at hl 1 rfl) ?_
          obtain ⟨r13, q12, hf⟩ := cap_s hf
          refine g_callVi hx hb hml hown hts hK hap hsx hI (tX2_reachToBack l hk0 q12 H.size) cv_X2_reachToBack q_t3_34 rfl rfl ⟨Nat.le_of_ble_eq_true rfl, Nat.le_of_ble_eq_true rfl⟩ hk0.1 (by simp) rfl rfl rfl hl.1 rfl (Nat.le_of_ble_eq_true rfl) (dc tbX2_reasonFor_1_k 4 rfl) ⟨Nat.le_of_ble_eq_true rfl, Nat.le_of_ble_eq_true rfl⟩ (fun H locs hI => ?_)
          refine lv_istore (lv' := [(6, .int r13), (5, .int y0), (0, .ref (ad k0)), (1, .ref (ad k1)), (2, .int x2), (3, .int x3), (4, .int x4)]) hx hb (dc tbX2_reasonFor_1_k 5 rfl) hl (by decide) rfl (fun ls hl => ?_)
          refine lv_iload hx hb (dc tbX2_reasonFor_1_k 6 rfl) (lv_at hl 0 rfl) ?_
          refine lv_aload_n hx hb (dc tbX2_reasonFor_1_k 7 rfl) rfl (lv_at hl 3 rfl) ?_
          refine gg1_6 hx hb hts hown hK hI hk1.1 q_t1_116 (dc tbX2_reasonFor_1_k 8 rfl) ?_
          refine lv_bipush (v := 6) hx hb (dc tbX2_reasonFor_1_k 9 rfl) bp_6 ?_
          obtain ⟨h15, hf⟩ := chk_s hf
          refine g_iald hx hb hK hI hk1.2.2.1 (okb_in h15) (dc tbX2_reasonFor_1_k 10 rfl) ?_
          refine lv_icmp_lt (tgt := 101) hx hb (dc tbX2_reasonFor_1_k 11 rfl) rfl (fun c16 => ?_) (fun c16 => ?_)
          · have hf := ite_t c16 hf
            refine lv_iconst (v := 3) hx hb (dc tbX2_reasonFor_1_k 18 rfl) ic_3 ?_
            cases hf
            exact g_iret hx hb hr hlk hI (dc tbX2_reasonFor_1_k 19 rfl)
          · have hf := ite_f c16 hf
            refine lv_iload hx hb (dc tbX2_reasonFor_1_k 12 rfl) (lv_at hl 0 rfl) ?_
            refine lv_aload_n hx hb (dc tbX2_reasonFor_1_k 13 rfl) rfl (lv_at hl 3 rfl) ?_
            refine gg1_6 hx hb hts hown hK hI hk1.1 q_t1_116 (dc tbX2_reasonFor_1_k 14 rfl) ?_
            refine lv_bipush (v := 7) hx hb (dc tbX2_reasonFor_1_k 15 rfl) bp_7 ?_
            obtain ⟨h17, hf⟩ := chk_s hf
            refine g_iald hx hb hK hI hk1.2.2.1 (okb_in h17) (dc tbX2_reasonFor_1_k 16 rfl) ?_
            refine lv_icmp_le (tgt := 103) hx hb (dc tbX2_reasonFor_1_k 17 rfl) rfl (fun c18 => ?_) (fun c18 => ?_)
            · have hf := ite_t c18 hf
              refine lv_aload_n hx hb (dc tbX2_reasonFor_1_k 20 rfl) rfl (lv_at hl 2 rfl) ?_
              refine lv_aload_n hx hb (dc tbX2_reasonFor_1_k 21 rfl) rfl (lv_at hl 3 rfl) ?_
              obtain ⟨r20, q19, hf⟩ := cap_s hf
              refine g_callVi hx hb hml hown hts hK hap hsx hI (tX2_legsHitting l hk0 hk1 q19 H.size) cv_X2_legsHitting q_t3_42 rfl rfl ⟨Nat.le_of_ble_eq_true rfl, Nat.le_of_ble_eq_true rfl⟩ hk0.1 (by simp) rfl rfl rfl hl.1 rfl (Nat.le_of_ble_eq_true rfl) (dc tbX2_reasonFor_1_k 22 rfl) ⟨Nat.le_of_ble_eq_true rfl, Nat.le_of_ble_eq_true rfl⟩ (fun H locs hI => ?_)
              refine lv_istore (lv' := [(7, .int r20), (6, .int r13), (5, .int y0), (0, .ref (ad k0)), (1, .ref (ad k1)), (2, .int x2), (3, .int x3), (4, .int x4)]) hx hb (dc tbX2_reasonFor_1_k 23 rfl) hl (by decide) rfl (fun ls hl => ?_)
              refine lv_iconst (v := 2) hx hb (dc tbX2_reasonFor_1_k 24 rfl) ic_2 ?_
              refine lv_aload_n hx hb (dc tbX2_reasonFor_1_k 25 rfl) rfl (lv_at hl 3 rfl) ?_
              refine gg2_8 hx hb hts hown hK hI hk0.1 q_t1_210 (dc tbX2_reasonFor_1_k 26 rfl) ?_
              refine lv_ishl hx hb (dc tbX2_reasonFor_1_k 27 rfl) ?_
              refine lv_iconst (v := 1) hx hb (dc tbX2_reasonFor_1_k 28 rfl) ic_1 ?_
              refine lv_aload_n hx hb (dc tbX2_reasonFor_1_k 29 rfl) rfl (lv_at hl 3 rfl) ?_
              refine gg2_7 hx hb hts hown hK hI hk0.1 q_t1_209 (dc tbX2_reasonFor_1_k 30 rfl) ?_
              refine lv_ishl hx hb (dc tbX2_reasonFor_1_k 31 rfl) ?_
              refine lv_isub hx hb (dc tbX2_reasonFor_1_k 32 rfl) ?_
              obtain ⟨x8_123, e22, hf⟩ := bnd_s hf
              refine lv_ei e22 ?_
              refine lv_istore (lv' := [(8, .int x8_123), (7, .int r20), (6, .int r13), (5, .int y0), (0, .ref (ad k0)), (1, .ref (ad k1)), (2, .int x2), (3, .int x3), (4, .int x4)]) hx hb (dc tbX2_reasonFor_1_k 33 rfl) hl (by decide) rfl (fun ls hl => ?_)
              refine lv_iload hx hb (dc tbX2_reasonFor_1_k 34 rfl) (lv_at hl 1 rfl) ?_
              refine lv_iload hx hb (dc tbX2_reasonFor_1_k 35 rfl) (lv_at hl 0 rfl) ?_
              refine lv_iand hx hb (dc tbX2_reasonFor_1_k 36 rfl) ?_
              refine lv_if_eq (tgt := 135) hx hb (dc tbX2_reasonFor_1_k 37 rfl) rfl (fun c23 => ?_) (fun c23 => ?_)
              · have hf := ite_t c23 hf
                refine lv_iload hx hb (dc tbX2_reasonFor_2_k 0 rfl) (lv_at hl 1 rfl) ?_
                refine lv_if_eq (tgt := 142) hx hb (dc tbX2_reasonFor_2_k 1 rfl) rfl (fun c24 => ?_) (fun c24 => ?_)
                · have hf := ite_t c24 hf
                  refine lv_aload_n hx hb (dc tbX2_reasonFor_2_k 4 rfl) rfl (lv_at hl 4 rfl) ?_
                  obtain ⟨r26, q25, hf⟩ := cap_s hf
                  refine g_callVi hx hb hml hown hts hK hap hsx hI (tX2_crossesItself l hk0 q25 H.size) cv_X2_crossesItself q_t3_50 rfl rfl ⟨Nat.le_of_ble_eq_true rfl, Nat.le_of_ble_eq_true rfl⟩ hk0.1 (by simp) rfl rfl rfl hl.1 rfl (Nat.le_of_ble_eq_true rfl) (dc tbX2_reasonFor_2_k 5 rfl) ⟨Nat.le_of_ble_eq_true rfl, Nat.le_of_ble_eq_true rfl⟩ (fun H locs hI => ?_)
                  refine lv_if_eq (tgt := 154) hx hb (dc tbX2_reasonFor_2_k 6 rfl) rfl (fun c28 => ?_) (fun c28 => ?_)
                  · have hf := ite_t c28 hf
                    refine lv_iconst (v := 0) hx hb (dc tbX2_reasonFor_2_k 9 rfl) ic_0 ?_
                    cases hf
                    exact g_iret hx hb hr hlk hI (dc tbX2_reasonFor_2_k 10 rfl)
                  · have hf := ite_f c28 hf
                    refine lv_bipush (v := 6) hx hb (dc tbX2_reasonFor_2_k 7 rfl) bp_6 ?_
                    refine lv_goto (tgt := 155) hx hb (dc tbX2_reasonFor_2_k 8 rfl) rfl ?_
                    cases hf
                    exact g_iret hx hb hr hlk hI (dc tbX2_reasonFor_2_k 10 rfl)
                · have hf := ite_f c24 hf
                  refine lv_iconst (v := 5) hx hb (dc tbX2_reasonFor_2_k 2 rfl) ic_5 ?_
                  cases hf
                  exact g_iret hx hb hr hlk hI (dc tbX2_reasonFor_2_k 3 rfl)
              · have hf := ite_f c23 hf
                refine lv_iconst (v := 4) hx hb (dc tbX2_reasonFor_1_k 38 rfl) ic_4 ?_
                cases hf
                exact g_iret hx hb hr hlk hI (dc tbX2_reasonFor_1_k 39 rfl)
            · have hf := ite_f c18 hf
              refine lv_iconst (v := 3) hx hb (dc tbX2_reasonFor_1_k 18 rfl) ic_3 ?_
              cases hf
              exact g_iret hx hb hr hlk hI (dc tbX2_reasonFor_1_k 19 rfl)
        · have hf := ite_f c8 hf
          refine lv_iconst (v := 2) hx hb (dc tbX2_reasonFor_0_k 36 rfl) ic_2 ?_
          cases hf
          exact g_iret hx hb hr hlk hI (dc tbX2_reasonFor_0_k 37 rfl)
  · have hf := ite_f c3 hf
    refine lv_iconst (v := 1) hx hb (dc tbX2_reasonFor_0_k 20 rfl) ic_1 ?_
    cases hf
    exact g_iret hx hb hr hlk hI (dc tbX2_reasonFor_0_k 21 rfl)
def mX2_reasonFor (k0 : Nat) (k1 : Nat) (x2 : Int32) (x3 : Int32) (M : Mem) : Option (Mem × Int32) := bnd ((x3 >>> ((1 : Int32) &&& 31))) (fun x4_3 => ite2 ((x3 &&& (1 : Int32)) = 0) (mX2_reasonFor_b20 k0 k1 x2 x3 x4_3 (x4_3 + (1 : Int32)) M) (mX2_reasonFor_b20 k0 k1 x2 x3 x4_3 x4_3 M))
set_option maxHeartbeats 4000000 in
set_option maxRecDepth 100000 in
theorem tX2_reasonFor (l : Launch) {G : GT} {kd : Nat → Nat × Nat} {ad : Nat → Nat} {k0 : Nat} {k1 : Nat} (hk0 : kPlaces kd k0) (hk1 : kPart kd k1) {x2 : Int32} {x3 : Int32} {M : Mem} {MO : Mem} {vo : Int32} (hf : mX2_reasonFor k0 k1 x2 x3 M = some (MO, vo)) (n : Nat) : Met l yX2_reasonFor (Cond.code yX2_reasonFor cX2_reasonFor 9 (some .int) :: WA) (rmO 2 0 0) (Pg G kd ad n [.ref (ad k0), .ref (ad k1), .int x2, .int x3] M) (Qg G kd ad n MO (some (.int vo))) 0 0 (AS kd ad n) := by
  refine g_body (own := RX2) (by decide) rfl ?_ (Nat.le_of_ble_eq_true rfl)
  intro p e s m args below meth c C _ H locs ls hI hl
  obtain ⟨hx, hb, hml, hr, hown, hts, hlk, hK, hap, hsx⟩ := id C
  have hl : lv_has ls 9 [(0, .ref (ad k0)), (1, .ref (ad k1)), (2, .int x2), (3, .int x3)] := hl
  unfold mX2_reasonFor at hf
  refine lv_iload_n hx hb (dc tbX2_reasonFor_0_k 0 rfl) rfl (lv_at hl 3 rfl) ?_
  refine lv_iconst (v := 1) hx hb (dc tbX2_reasonFor_0_k 1 rfl) ic_1 ?_
  refine lv_ishr hx hb (dc tbX2_reasonFor_0_k 2 rfl) ?_
  obtain ⟨x4_3, e1, hf⟩ := bnd_s hf
  refine lv_ei e1 ?_
  refine lv_istore (lv' := [(4, .int x4_3), (0, .ref (ad k0)), (1, .ref (ad k1)), (2, .int x2), (3, .int x3)]) hx hb (dc tbX2_reasonFor_0_k 3 rfl) hl (by decide) rfl (fun ls hl => ?_)
  refine lv_iload_n hx hb (dc tbX2_reasonFor_0_k 4 rfl) rfl (lv_at hl 4 rfl) ?_
  refine lv_iconst (v := 1) hx hb (dc tbX2_reasonFor_0_k 5 rfl) ic_1 ?_
  refine lv_iand hx hb (dc tbX2_reasonFor_0_k 6 rfl) ?_
  refine lv_if_ne (tgt := 18) hx hb (dc tbX2_reasonFor_0_k 7 rfl) rfl (fun c2 => ?_) (fun c2 => ?_)
  · have hf := ite_f c2 hf
    refine lv_iload hx hb (dc tbX2_reasonFor_0_k 12 rfl) (lv_at hl 0 rfl) ?_
    exact tX2_reasonFor_b20 C hk0 hk1 x2 x3 x4_3 x4_3 M hf _ _ _ hI (lv_sub hl [1, 2, 3, 4, 0] rfl)
  · have hf := ite_t c2 hf
    refine lv_iload hx hb (dc tbX2_reasonFor_0_k 8 rfl) (lv_at hl 0 rfl) ?_
    refine lv_iconst (v := 1) hx hb (dc tbX2_reasonFor_0_k 9 rfl) ic_1 ?_
    refine lv_iadd hx hb (dc tbX2_reasonFor_0_k 10 rfl) ?_
    refine lv_goto (tgt := 20) hx hb (dc tbX2_reasonFor_0_k 11 rfl) rfl ?_
    exact tX2_reasonFor_b20 C hk0 hk1 x2 x3 x4_3 (x4_3 + (1 : Int32)) M hf _ _ _ hI (lv_sub hl [1, 2, 3, 4, 0] rfl)
theorem cv_X2_reasonFor : cvF RX2 yX2_reasonFor cX2_reasonFor 9 (some .int) 3 := ⟨q_t3_26, q_t3_27, q_t1_5, q_t3_28, by decide +kernel⟩
def mX2_possibleSteps_b34 (k0 : Nat) (k1 : Nat) (ih5 : Int32 → Int32 → Int32 → Mem → Option (Mem × Int32)) (x2 : Int32) (x3 : Int32) (x4 : Int32) (M : Mem) : Option (Mem × Int32) := bnd (x4 + (1 : Int32)) (fun x4_34 => ih5 x2 x3 x4_34 M)
set_option maxHeartbeats 4000000 in
set_option maxRecDepth 100000 in
theorem tX2_possibleSteps_b34 {p : Program} {l : Launch} {e : Env} {s : State} {m : MethodId} {args : Array Value} {below : List Frame} {meth : Method} {c : Code} {G : GT} {kd : Nat → Nat × Nat} {ad : Nat → Nat} (C : Cx p s m args meth c cX2_possibleSteps 5 (some .int) RX2 G kd ad) {k0 : Nat} {k1 : Nat} (hk0 : kPlaces kd k0) (hk1 : kPart kd k1) {MO : Mem} {vo : Int32} {ih5 : Int32 → Int32 → Int32 → Mem → Option (Mem × Int32)} (hih5 : ∀ (x2 : Int32) (x3 : Int32) (x4 : Int32) (M : Mem), ih5 x2 x3 x4 M = some (MO, vo) → At p l e (rmO 3 0 0) s m args below meth c 0 0 (MQ below (Qg G kd ad s.heap.size MO (some (.int vo))) args s 0 0 (AS kd ad s.heap.size)) G kd ad 5 5 [(0, .ref (ad k0)), (1, .ref (ad k1)), (2, .int x2), (3, .int x3), (4, .int x4)] [] M) : ∀ (x2 : Int32) (x3 : Int32) (x4 : Int32) (M : Mem), mX2_possibleSteps_b34 k0 k1 ih5 x2 x3 x4 M = some (MO, vo) → At p l e (rmO 3 0 0) s m args below meth c 0 0 (MQ below (Qg G kd ad s.heap.size MO (some (.int vo))) args s 0 0 (AS kd ad s.heap.size)) G kd ad 5 34 [(0, .ref (ad k0)), (1, .ref (ad k1)), (2, .int x2), (3, .int x3), (4, .int x4)] [] M := by
  intro x2 x3 x4 M hf H locs ls hI hl
  obtain ⟨hx, hb, hml, hr, hown, hts, hlk, hK, hap, hsx⟩ := id C
  unfold mX2_possibleSteps_b34 at hf
  obtain ⟨x4_34, e9, hf⟩ := bnd_s hf
  refine lv_iinc (v := x4_34) (lv' := [(4, .int x4_34), (0, .ref (ad k0)), (1, .ref (ad k1)), (2, .int x2), (3, .int x3)]) hx hb (dc tbX2_possibleSteps_k 22 rfl) hl (k := 4) rfl (ii_e e9 ic_1) (by decide) rfl (fun ls hl => ?_)
  refine lv_goto (tgt := 5) hx hb (dc tbX2_possibleSteps_k 23 rfl) rfl ?_
  exact hih5 x2 x3 x4_34 M hf _ _ _ hI (lv_sub hl [1, 2, 3, 4, 0] rfl)
def mX2_possibleSteps_b5 (k0 : Nat) (k1 : Nat) (ih5 : Int32 → Int32 → Int32 → Mem → Option (Mem × Int32)) (x2 : Int32) (x3 : Int32) (x4 : Int32) (M : Mem) : Option (Mem × Int32) := cap (mX1_bendCount k1 M) (fun r2 => ite2 (((2 : Int32) * r2) ≤ x4) (some (M, x3)) (cal (mX2_reasonFor k0 k1 x2 x4 M) (fun M7 r6 => ite2 (r6 = 0) (bnd ((x3 ||| ((1 : Int32) <<< (x4 &&& 31)))) (fun x3_33 => mX2_possibleSteps_b34 k0 k1 ih5 x2 x3_33 x4 M7)) (mX2_possibleSteps_b34 k0 k1 ih5 x2 x3 x4 M7))))
set_option maxHeartbeats 4000000 in
set_option maxRecDepth 100000 in
theorem tX2_possibleSteps_b5 {p : Program} {l : Launch} {e : Env} {s : State} {m : MethodId} {args : Array Value} {below : List Frame} {meth : Method} {c : Code} {G : GT} {kd : Nat → Nat × Nat} {ad : Nat → Nat} (C : Cx p s m args meth c cX2_possibleSteps 5 (some .int) RX2 G kd ad) {k0 : Nat} {k1 : Nat} (hk0 : kPlaces kd k0) (hk1 : kPart kd k1) {MO : Mem} {vo : Int32} {ih5 : Int32 → Int32 → Int32 → Mem → Option (Mem × Int32)} (hih5 : ∀ (x2 : Int32) (x3 : Int32) (x4 : Int32) (M : Mem), ih5 x2 x3 x4 M = some (MO, vo) → At p l e (rmO 3 0 0) s m args below meth c 0 0 (MQ below (Qg G kd ad s.heap.size MO (some (.int vo))) args s 0 0 (AS kd ad s.heap.size)) G kd ad 5 5 [(0, .ref (ad k0)), (1, .ref (ad k1)), (2, .int x2), (3, .int x3), (4, .int x4)] [] M) : ∀ (x2 : Int32) (x3 : Int32) (x4 : Int32) (M : Mem), mX2_possibleSteps_b5 k0 k1 ih5 x2 x3 x4 M = some (MO, vo) → At p l e (rmO 3 0 0) s m args below meth c 0 0 (MQ below (Qg G kd ad s.heap.size MO (some (.int vo))) args s 0 0 (AS kd ad s.heap.size)) G kd ad 5 5 [(0, .ref (ad k0)), (1, .ref (ad k1)), (2, .int x2), (3, .int x3), (4, .int x4)] [] M := by
  intro x2 x3 x4 M hf H locs ls hI hl
  obtain ⟨hx, hb, hml, hr, hown, hts, hlk, hK, hap, hsx⟩ := id C
  unfold mX2_possibleSteps_b5 at hf
  refine lv_iload hx hb (dc tbX2_possibleSteps_k 4 rfl) (lv_at hl 4 rfl) ?_
  refine lv_iconst (v := 2) hx hb (dc tbX2_possibleSteps_k 5 rfl) ic_2 ?_
  refine lv_aload_n hx hb (dc tbX2_possibleSteps_k 6 rfl) rfl (lv_at hl 1 rfl) ?_
  obtain ⟨r2, q1, hf⟩ := cap_s hf
  refine g_callVi hx hb hml hown hts hK hap hsx hI (tX1_bendCount l hk1 q1 H.size) cv_X1_bendCount q_t3_24 rfl rfl ⟨Nat.le_of_ble_eq_true rfl, Nat.le_of_ble_eq_true rfl⟩ hk1.1 (by simp) rfl rfl rfl hl.1 rfl (Nat.le_of_ble_eq_true rfl) (dc tbX2_possibleSteps_k 7 rfl) ⟨Nat.le_of_ble_eq_true rfl, Nat.le_of_ble_eq_true rfl⟩ (fun H locs hI => ?_)
  refine lv_imul hx hb (dc tbX2_possibleSteps_k 8 rfl) ?_
  refine lv_icmp_ge (tgt := 40) hx hb (dc tbX2_possibleSteps_k 9 rfl) rfl (fun c4 => ?_) (fun c4 => ?_)
  · have hf := ite_t c4 hf
    refine lv_iload_n hx hb (dc tbX2_possibleSteps_k 24 rfl) rfl (lv_at hl 3 rfl) ?_
    cases hf
    exact g_iret hx hb hr hlk hI (dc tbX2_possibleSteps_k 25 rfl)
  · have hf := ite_f c4 hf
    refine lv_aload_n hx hb (dc tbX2_possibleSteps_k 10 rfl) rfl (lv_at hl 0 rfl) ?_
    refine lv_aload_n hx hb (dc tbX2_possibleSteps_k 11 rfl) rfl (lv_at hl 1 rfl) ?_
    refine lv_iload_n hx hb (dc tbX2_possibleSteps_k 12 rfl) rfl (lv_at hl 2 rfl) ?_
    refine lv_iload hx hb (dc tbX2_possibleSteps_k 13 rfl) (lv_at hl 4 rfl) ?_
    obtain ⟨M7, r6, q5, hf⟩ := cal_s hf
    refine g_callVi hx hb hml hown hts hK hap hsx hI (tX2_reasonFor l hk0 hk1 q5 H.size) cv_X2_reasonFor q_t3_25 rfl rfl ⟨Nat.le_of_ble_eq_true rfl, Nat.le_of_ble_eq_true rfl⟩ hk0.1 (by simp) rfl rfl rfl hl.1 rfl (Nat.le_of_ble_eq_true rfl) (dc tbX2_possibleSteps_k 14 rfl) ⟨Nat.le_of_ble_eq_true rfl, Nat.le_of_ble_eq_true rfl⟩ (fun H locs hI => ?_)
    refine lv_if_ne (tgt := 34) hx hb (dc tbX2_possibleSteps_k 15 rfl) rfl (fun c8 => ?_) (fun c8 => ?_)
    · have hf := ite_f c8 hf
      exact tX2_possibleSteps_b34 C hk0 hk1 hih5 x2 x3 x4 M7 hf _ _ _ hI (lv_sub hl [0, 1, 2, 3, 4] rfl)
    · have hf := ite_t c8 hf
      refine lv_iload_n hx hb (dc tbX2_possibleSteps_k 16 rfl) rfl (lv_at hl 3 rfl) ?_
      refine lv_iconst (v := 1) hx hb (dc tbX2_possibleSteps_k 17 rfl) ic_1 ?_
      refine lv_iload hx hb (dc tbX2_possibleSteps_k 18 rfl) (lv_at hl 4 rfl) ?_
      refine lv_ishl hx hb (dc tbX2_possibleSteps_k 19 rfl) ?_
      refine lv_ior hx hb (dc tbX2_possibleSteps_k 20 rfl) ?_
      obtain ⟨x3_33, e10, hf⟩ := bnd_s hf
      refine lv_ei e10 ?_
      refine lv_istore_n (lv' := [(3, .int x3_33), (0, .ref (ad k0)), (1, .ref (ad k1)), (2, .int x2), (4, .int x4)]) hx hb (dc tbX2_possibleSteps_k 21 rfl) rfl hl (by decide) rfl (fun ls hl => ?_)
      exact tX2_possibleSteps_b34 C hk0 hk1 hih5 x2 x3_33 x4 M7 hf _ _ _ hI (lv_sub hl [1, 2, 3, 0, 4] rfl)
def mX2_possibleSteps_l5 (k0 : Nat) (k1 : Nat) : Nat → Int32 → Int32 → Int32 → Mem → Option (Mem × Int32)
  | 0 => fun _ _ _ _ => none
  | n + 1 => mX2_possibleSteps_b5 k0 k1 (mX2_possibleSteps_l5 k0 k1 n)
theorem tX2_possibleSteps_l5 {p : Program} {l : Launch} {e : Env} {s : State} {m : MethodId} {args : Array Value} {below : List Frame} {meth : Method} {c : Code} {G : GT} {kd : Nat → Nat × Nat} {ad : Nat → Nat} (C : Cx p s m args meth c cX2_possibleSteps 5 (some .int) RX2 G kd ad) {k0 : Nat} {k1 : Nat} (hk0 : kPlaces kd k0) (hk1 : kPart kd k1) {MO : Mem} {vo : Int32}   : ∀ (fuel : Nat) (x2 : Int32) (x3 : Int32) (x4 : Int32) (M : Mem), mX2_possibleSteps_l5 k0 k1 fuel x2 x3 x4 M = some (MO, vo) → At p l e (rmO 3 0 0) s m args below meth c 0 0 (MQ below (Qg G kd ad s.heap.size MO (some (.int vo))) args s 0 0 (AS kd ad s.heap.size)) G kd ad 5 5 [(0, .ref (ad k0)), (1, .ref (ad k1)), (2, .int x2), (3, .int x3), (4, .int x4)] [] M := by
  intro fuel
  induction fuel with
  | zero => intro x2 x3 x4 M hf; cases hf
  | succ n IH => exact tX2_possibleSteps_b5 C hk0 hk1 IH
def mX2_possibleSteps (k0 : Nat) (k1 : Nat) (x2 : Int32) (M : Mem) : Option (Mem × Int32) := mX2_possibleSteps_l5 k0 k1 5000 x2 (0 : Int32) (0 : Int32) M
set_option maxHeartbeats 4000000 in
set_option maxRecDepth 100000 in
theorem tX2_possibleSteps (l : Launch) {G : GT} {kd : Nat → Nat × Nat} {ad : Nat → Nat} {k0 : Nat} {k1 : Nat} (hk0 : kPlaces kd k0) (hk1 : kPart kd k1) {x2 : Int32} {M : Mem} {MO : Mem} {vo : Int32} (hf : mX2_possibleSteps k0 k1 x2 M = some (MO, vo)) (n : Nat) : Met l yX2_possibleSteps (Cond.code yX2_possibleSteps cX2_possibleSteps 5 (some .int) :: WA) (rmO 3 0 0) (Pg G kd ad n [.ref (ad k0), .ref (ad k1), .int x2] M) (Qg G kd ad n MO (some (.int vo))) 0 0 (AS kd ad n) := by
  refine g_body (own := RX2) (by decide) rfl ?_ (Nat.le_of_ble_eq_true rfl)
  intro p e s m args below meth c C _ H locs ls hI hl
  obtain ⟨hx, hb, hml, hr, hown, hts, hlk, hK, hap, hsx⟩ := id C
  have hl : lv_has ls 5 [(0, .ref (ad k0)), (1, .ref (ad k1)), (2, .int x2)] := hl
  unfold mX2_possibleSteps at hf
  refine lv_iconst (v := 0) hx hb (dc tbX2_possibleSteps_k 0 rfl) ic_0 ?_
  refine lv_istore_n (lv' := [(3, .int (0 : Int32)), (0, .ref (ad k0)), (1, .ref (ad k1)), (2, .int x2)]) hx hb (dc tbX2_possibleSteps_k 1 rfl) rfl hl (by decide) rfl (fun ls hl => ?_)
  refine lv_iconst (v := 0) hx hb (dc tbX2_possibleSteps_k 2 rfl) ic_0 ?_
  refine lv_istore (lv' := [(4, .int (0 : Int32)), (3, .int (0 : Int32)), (0, .ref (ad k0)), (1, .ref (ad k1)), (2, .int x2)]) hx hb (dc tbX2_possibleSteps_k 3 rfl) hl (by decide) rfl (fun ls hl => ?_)
  exact tX2_possibleSteps_l5 C hk0 hk1 5000 x2 (0 : Int32) (0 : Int32) M hf _ _ _ hI (lv_sub hl [2, 3, 4, 1, 0] rfl)
theorem cv_X2_possibleSteps : cvF RX2 yX2_possibleSteps cX2_possibleSteps 5 (some .int) 2 := ⟨q_t3_21, q_t3_22, q_t1_5, q_t3_23, by decide +kernel⟩
