def mX5_isSpelled_b28 (k0 : Nat) (k1 : Nat) (M : Mem) (ih28 : Int32 → Int32 → Int32 → Option Int32) (x2 : Int32) (x3 : Int32) (x4 : Int32) : Option Int32 := ite2 (x3 ≤ x4) (some (1 : Int32)) (chk (okb (x2 + x4) 600) (cap (mJ0_charAt_5068e k0 x4 M) (fun r10 => ite2 ((rd M k1 ((x2 + x4)).toNatClampNeg) = r10) (bnd (x4 + (1 : Int32)) (fun x4_54 => ih28 x2 x3 x4_54)) (some (0 : Int32)))))
set_option maxHeartbeats 4000000 in
set_option maxRecDepth 100000 in
theorem tX5_isSpelled_b28 {p : Program} {l : Launch} {e : Env} {s : State} {m : MethodId} {args : Array Value} {below : List Frame} {meth : Method} {c : Code} {G : GT} {kd : Nat → Nat × Nat} {ad : Nat → Nat} (C : Cx p s m args meth c cX5_isSpelled 5 (some .boolean) RX5 G kd ad) {k0 : Nat} {k1 : Nat} (hk0 : k0 < 11) (hk1 : kd k1 = (11, 600)) {M : Mem} {vo : Int32} {ih28 : Int32 → Int32 → Int32 → Option Int32} (hih28 : ∀ (x2 : Int32) (x3 : Int32) (x4 : Int32), ih28 x2 x3 x4 = some vo → At p l e (rmO 4 0 0) s m args below meth c 0 0 (MQ below (Qg G kd ad s.heap.size M (some (.int vo))) args s 0 0 (AS kd ad s.heap.size)) G kd ad 5 28 [(0, .ref (G.2.2 k0)), (1, .ref (ad k1)), (2, .int x2), (3, .int x3), (4, .int x4)] [] M) : ∀ (x2 : Int32) (x3 : Int32) (x4 : Int32), mX5_isSpelled_b28 k0 k1 M ih28 x2 x3 x4 = some vo → At p l e (rmO 4 0 0) s m args below meth c 0 0 (MQ below (Qg G kd ad s.heap.size M (some (.int vo))) args s 0 0 (AS kd ad s.heap.size)) G kd ad 5 28 [(0, .ref (G.2.2 k0)), (1, .ref (ad k1)), (2, .int x2), (3, .int x3), (4, .int x4)] [] M := by
  intro x2 x3 x4 hf H locs ls hI hl
  obtain ⟨hx, hb, hml, hr, hown, hts, hlk, hK, hap, hsx⟩ := id C
  unfold mX5_isSpelled_b28 at hf
  refine lv_iload hx hb (dc tbX5_isSpelled_k 17 rfl) (lv_at hl 4 rfl) ?_
  refine lv_iload_n hx hb (dc tbX5_isSpelled_k 18 rfl) rfl (lv_at hl 3 rfl) ?_
  refine lv_icmp_ge (tgt := 60) hx hb (dc tbX5_isSpelled_k 19 rfl) rfl (fun c7 => ?_) (fun c7 => ?_)
  · have hf := ite_t c7 hf
    refine lv_iconst (v := 1) hx hb (dc tbX5_isSpelled_k 34 rfl) ic_1 ?_
    cases hf
    exact g_zret hx hb hr hlk hI rfl (dc tbX5_isSpelled_k 35 rfl)
  · have hf := ite_f c7 hf
    refine lv_aload_n hx hb (dc tbX5_isSpelled_k 20 rfl) rfl (lv_at hl 1 rfl) ?_
    refine lv_iload_n hx hb (dc tbX5_isSpelled_k 21 rfl) rfl (lv_at hl 2 rfl) ?_
    refine lv_iload hx hb (dc tbX5_isSpelled_k 22 rfl) (lv_at hl 4 rfl) ?_
    refine lv_iadd hx hb (dc tbX5_isSpelled_k 23 rfl) ?_
    obtain ⟨h8, hf⟩ := chk_s hf
    refine g_bald hx hb hK hI hk1 (okb_in h8) (dc tbX5_isSpelled_k 24 rfl) ?_
    refine lv_aload_n hx hb (dc tbX5_isSpelled_k 25 rfl) rfl (lv_at hl 0 rfl) ?_
    refine g_wtext hx hb hown hts hsx hI hk0 q_t10_37 (dc tbX5_isSpelled_k 26 rfl) ?_
    refine lv_iload hx hb (dc tbX5_isSpelled_k 27 rfl) (lv_at hl 4 rfl) ?_
    obtain ⟨r10, q9, hf⟩ := cap_s hf
    refine g_callTi hx hb hml hown hts hK hap hsx hI (tJ0_charAt_5068e l (Nat.lt_of_lt_of_le hk0 (by decide)) q9 H.size) cv_J0_charAt_5068e q_t5_150 rfl rfl ⟨Nat.le_of_ble_eq_true rfl, Nat.le_of_ble_eq_true rfl⟩ (Nat.lt_of_lt_of_le hk0 (by decide)) rfl hl.1 rfl (Nat.le_of_ble_eq_true rfl) (dc tbX5_isSpelled_k 28 rfl) ⟨Nat.le_of_ble_eq_true rfl, Nat.le_of_ble_eq_true rfl⟩ (fun H locs hI => ?_)
    refine lv_icmp_eq (tgt := 54) hx hb (dc tbX5_isSpelled_k 29 rfl) rfl (fun c12 => ?_) (fun c12 => ?_)
    · have hf := ite_t c12 hf
      obtain ⟨x4_54, e13, hf⟩ := bnd_s hf
      refine lv_iinc (v := x4_54) (lv' := [(4, .int x4_54), (0, .ref (G.2.2 k0)), (1, .ref (ad k1)), (2, .int x2), (3, .int x3)]) hx hb (dc tbX5_isSpelled_k 32 rfl) hl (k := 4) rfl (ii_e e13 ic_1) (by decide) rfl (fun ls hl => ?_)
      refine lv_goto (tgt := 28) hx hb (dc tbX5_isSpelled_k 33 rfl) rfl ?_
      exact hih28 x2 x3 x4_54 hf _ _ _ hI (lv_sub hl [1, 2, 3, 4, 0] rfl)
    · have hf := ite_f c12 hf
      refine lv_iconst (v := 0) hx hb (dc tbX5_isSpelled_k 30 rfl) ic_0 ?_
      cases hf
      exact g_zret hx hb hr hlk hI rfl (dc tbX5_isSpelled_k 31 rfl)
def mX5_isSpelled_l28 (k0 : Nat) (k1 : Nat) (M : Mem) : Nat → Int32 → Int32 → Int32 → Option Int32
  | 0 => fun _ _ _ => none
  | n + 1 => mX5_isSpelled_b28 k0 k1 M (mX5_isSpelled_l28 k0 k1 M n)
theorem tX5_isSpelled_l28 {p : Program} {l : Launch} {e : Env} {s : State} {m : MethodId} {args : Array Value} {below : List Frame} {meth : Method} {c : Code} {G : GT} {kd : Nat → Nat × Nat} {ad : Nat → Nat} (C : Cx p s m args meth c cX5_isSpelled 5 (some .boolean) RX5 G kd ad) {k0 : Nat} {k1 : Nat} (hk0 : k0 < 11) (hk1 : kd k1 = (11, 600)) {M : Mem} {vo : Int32}   : ∀ (fuel : Nat) (x2 : Int32) (x3 : Int32) (x4 : Int32), mX5_isSpelled_l28 k0 k1 M fuel x2 x3 x4 = some vo → At p l e (rmO 4 0 0) s m args below meth c 0 0 (MQ below (Qg G kd ad s.heap.size M (some (.int vo))) args s 0 0 (AS kd ad s.heap.size)) G kd ad 5 28 [(0, .ref (G.2.2 k0)), (1, .ref (ad k1)), (2, .int x2), (3, .int x3), (4, .int x4)] [] M := by
  intro fuel
  induction fuel with
  | zero => intro x2 x3 x4 hf; cases hf
  | succ n IH => exact tX5_isSpelled_b28 C hk0 hk1 IH
def mX5_isSpelled (k0 : Nat) (k1 : Nat) (x2 : Int32) (x3 : Int32) (M : Mem) : Option Int32 := cap (mJ0_length_8abf5 k0 M) (fun r2 => ite2 (x3 = r2) (ite2 (x2 < 0) (some (0 : Int32)) (ite2 ((x2 + x3) ≤ (600 : Int32)) (mX5_isSpelled_l28 k0 k1 M 5000 x2 x3 (0 : Int32)) (some (0 : Int32)))) (some (0 : Int32)))
set_option maxHeartbeats 4000000 in
set_option maxRecDepth 100000 in
theorem tX5_isSpelled (l : Launch) {G : GT} {kd : Nat → Nat × Nat} {ad : Nat → Nat} {k0 : Nat} {k1 : Nat} (hk0 : k0 < 11) (hk1 : kd k1 = (11, 600)) {x2 : Int32} {x3 : Int32} {M : Mem} {vo : Int32} (hf : mX5_isSpelled k0 k1 x2 x3 M = some vo) (n : Nat) : Met l yX5_isSpelled (Cond.code yX5_isSpelled cX5_isSpelled 5 (some .boolean) :: WA) (rmO 4 0 0) (Pg G kd ad n [.ref (G.2.2 k0), .ref (ad k1), .int x2, .int x3] M) (Qg G kd ad n M (some (.int vo))) 0 0 (AS kd ad n) := by
  refine g_body (own := RX5) (by decide) rfl ?_ (Nat.le_of_ble_eq_true rfl)
  intro p e s m args below meth c C _ H locs ls hI hl
  obtain ⟨hx, hb, hml, hr, hown, hts, hlk, hK, hap, hsx⟩ := id C
  have hl : lv_has ls 5 [(0, .ref (G.2.2 k0)), (1, .ref (ad k1)), (2, .int x2), (3, .int x3)] := hl
  unfold mX5_isSpelled at hf
  refine lv_iload_n hx hb (dc tbX5_isSpelled_k 0 rfl) rfl (lv_at hl 3 rfl) ?_
  refine lv_aload_n hx hb (dc tbX5_isSpelled_k 1 rfl) rfl (lv_at hl 0 rfl) ?_
  refine g_wtext hx hb hown hts hsx hI hk0 q_t10_37 (dc tbX5_isSpelled_k 2 rfl) ?_
  obtain ⟨r2, q1, hf⟩ := cap_s hf
  refine g_callTi hx hb hml hown hts hK hap hsx hI (tJ0_length_8abf5 l (Nat.lt_of_lt_of_le hk0 (by decide)) q1 H.size) cv_J0_length_8abf5 q_t5_149 rfl rfl ⟨Nat.le_of_ble_eq_true rfl, Nat.le_of_ble_eq_true rfl⟩ (Nat.lt_of_lt_of_le hk0 (by decide)) rfl hl.1 rfl (Nat.le_of_ble_eq_true rfl) (dc tbX5_isSpelled_k 3 rfl) ⟨Nat.le_of_ble_eq_true rfl, Nat.le_of_ble_eq_true rfl⟩ (fun H locs hI => ?_)
  refine lv_icmp_ne (tgt := 23) hx hb (dc tbX5_isSpelled_k 4 rfl) rfl (fun c4 => ?_) (fun c4 => ?_)
  · have hf := ite_f c4 hf
    refine lv_iconst (v := 0) hx hb (dc tbX5_isSpelled_k 13 rfl) ic_0 ?_
    cases hf
    exact g_zret hx hb hr hlk hI rfl (dc tbX5_isSpelled_k 14 rfl)
  · have hf := ite_t c4 hf
    refine lv_iload_n hx hb (dc tbX5_isSpelled_k 5 rfl) rfl (lv_at hl 2 rfl) ?_
    refine lv_if_lt (tgt := 23) hx hb (dc tbX5_isSpelled_k 6 rfl) rfl (fun c5 => ?_) (fun c5 => ?_)
    · have hf := ite_t c5 hf
      refine lv_iconst (v := 0) hx hb (dc tbX5_isSpelled_k 13 rfl) ic_0 ?_
      cases hf
      exact g_zret hx hb hr hlk hI rfl (dc tbX5_isSpelled_k 14 rfl)
    · have hf := ite_f c5 hf
      refine lv_iload_n hx hb (dc tbX5_isSpelled_k 7 rfl) rfl (lv_at hl 2 rfl) ?_
      refine lv_iload_n hx hb (dc tbX5_isSpelled_k 8 rfl) rfl (lv_at hl 3 rfl) ?_
      refine lv_iadd hx hb (dc tbX5_isSpelled_k 9 rfl) ?_
      refine lv_aload_n hx hb (dc tbX5_isSpelled_k 10 rfl) rfl (lv_at hl 1 rfl) ?_
      refine g_alenB hx hb hK hI hk1 (v := 600) (by decide) (dc tbX5_isSpelled_k 11 rfl) ?_
      refine lv_icmp_le (tgt := 25) hx hb (dc tbX5_isSpelled_k 12 rfl) rfl (fun c6 => ?_) (fun c6 => ?_)
      · have hf := ite_t c6 hf
        refine lv_iconst (v := 0) hx hb (dc tbX5_isSpelled_k 15 rfl) ic_0 ?_
        refine lv_istore (lv' := [(4, .int (0 : Int32)), (0, .ref (G.2.2 k0)), (1, .ref (ad k1)), (2, .int x2), (3, .int x3)]) hx hb (dc tbX5_isSpelled_k 16 rfl) hl (by decide) rfl (fun ls hl => ?_)
        exact tX5_isSpelled_l28 C hk0 hk1 5000 x2 x3 (0 : Int32) hf _ _ _ hI (lv_sub hl [1, 2, 3, 4, 0] rfl)
      · have hf := ite_f c6 hf
        refine lv_iconst (v := 0) hx hb (dc tbX5_isSpelled_k 13 rfl) ic_0 ?_
        cases hf
        exact g_zret hx hb hr hlk hI rfl (dc tbX5_isSpelled_k 14 rfl)
theorem cv_X5_isSpelled : cvF RX5 yX5_isSpelled cX5_isSpelled 5 (some .boolean) 3 := ⟨q_t5_146, q_s2_7, q_t1_17, q_t5_148, by decide +kernel⟩
def mX5_find_b2 (k0 : Nat) (M : Mem) (ih2 : Int32 → Int32 → Int32 → Option (Option Nat)) (x1 : Int32) (x2 : Int32) (x3 : Int32) : Option (Option Nat) := ite2 ((11 : Int32) ≤ x3) (some none) (chk (okb x3 11) (cap (mX5_isSpelled ((x3).toNatClampNeg) k0 x1 x2 M) (fun r4 => ite2 (r4 = 0) (bnd (x3 + (1 : Int32)) (fun x3_30 => ih2 x1 x2 x3_30)) (chk (okb x3 11) (some (some (x3).toNatClampNeg))))))
set_option maxHeartbeats 4000000 in
set_option maxRecDepth 100000 in
theorem tX5_find_b2 {p : Program} {l : Launch} {e : Env} {s : State} {m : MethodId} {args : Array Value} {below : List Frame} {meth : Method} {c : Code} {G : GT} {kd : Nat → Nat × Nat} {ad : Nat → Nat} (C : Cx p s m args meth c cX5_find 4 (some (.object "SheetFolder$Word")) RX5 G kd ad) {k0 : Nat} (hk0 : kd k0 = (11, 600)) {M : Mem} {vo : (Option Nat)} {ih2 : Int32 → Int32 → Int32 → Option (Option Nat)} (hih2 : ∀ (x1 : Int32) (x2 : Int32) (x3 : Int32), ih2 x1 x2 x3 = some vo → At p l e (rmO 5 0 0) s m args below meth c 0 0 (MQ below (Qg G kd ad s.heap.size M (some (va_re G.2.2 vo))) args s 0 0 (AS kd ad s.heap.size)) G kd ad 4 2 [(0, .ref (ad k0)), (1, .int x1), (2, .int x2), (3, .int x3)] [] M) : ∀ (x1 : Int32) (x2 : Int32) (x3 : Int32), mX5_find_b2 k0 M ih2 x1 x2 x3 = some vo → At p l e (rmO 5 0 0) s m args below meth c 0 0 (MQ below (Qg G kd ad s.heap.size M (some (va_re G.2.2 vo))) args s 0 0 (AS kd ad s.heap.size)) G kd ad 4 2 [(0, .ref (ad k0)), (1, .int x1), (2, .int x2), (3, .int x3)] [] M := by
  intro x1 x2 x3 hf H locs ls hI hl
  obtain ⟨hx, hb, hml, hr, hown, hts, hlk, hK, hap, hsx⟩ := id C
  unfold mX5_find_b2 at hf
  refine lv_iload_n hx hb (dc tbX5_find_k 2 rfl) rfl (lv_at hl 3 rfl) ?_
  refine g_gsall hx hb hown hts hsx hI q_t5_142 (dc tbX5_find_k 3 rfl) ?_
  refine g_allen hx hb hsx hI (dc tbX5_find_k 4 rfl) ?_
  refine lv_icmp_ge (tgt := 36) hx hb (dc tbX5_find_k 5 rfl) rfl (fun c1 => ?_) (fun c1 => ?_)
  · have hf := ite_t c1 hf
    refine lv_null hx hb (dc tbX5_find_k 20 rfl) ?_
    cases hf
    exact g_aret hx hb hr hlk hI (w := none) (dc tbX5_find_k 21 rfl)
  · have hf := ite_f c1 hf
    refine g_gsall hx hb hown hts hsx hI q_t5_142 (dc tbX5_find_k 6 rfl) ?_
    refine lv_iload_n hx hb (dc tbX5_find_k 7 rfl) rfl (lv_at hl 3 rfl) ?_
    obtain ⟨h2, hf⟩ := chk_s hf
    refine g_alld hx hb hsx hI (okb_in h2) (dc tbX5_find_k 8 rfl) ?_
    refine lv_aload_n hx hb (dc tbX5_find_k 9 rfl) rfl (lv_at hl 0 rfl) ?_
    refine lv_iload_n hx hb (dc tbX5_find_k 10 rfl) rfl (lv_at hl 1 rfl) ?_
    refine lv_iload_n hx hb (dc tbX5_find_k 11 rfl) rfl (lv_at hl 2 rfl) ?_
    obtain ⟨r4, q3, hf⟩ := cap_s hf
    refine g_callWi hx hb hml hown hts hK hap hsx hI (tX5_isSpelled l (okb_lt h2) hk0 q3 H.size) cv_X5_isSpelled q_t5_144 rfl rfl ⟨Nat.le_of_ble_eq_true rfl, Nat.le_of_ble_eq_true rfl⟩ (okb_lt h2) rfl hl.1 rfl (Nat.le_of_ble_eq_true rfl) (dc tbX5_find_k 12 rfl) ⟨Nat.le_of_ble_eq_true rfl, Nat.le_of_ble_eq_true rfl⟩ (fun H locs hI => ?_)
    refine lv_if_eq (tgt := 30) hx hb (dc tbX5_find_k 13 rfl) rfl (fun c6 => ?_) (fun c6 => ?_)
    · have hf := ite_t c6 hf
      obtain ⟨x3_30, e7, hf⟩ := bnd_s hf
      refine lv_iinc (v := x3_30) (lv' := [(3, .int x3_30), (0, .ref (ad k0)), (1, .int x1), (2, .int x2)]) hx hb (dc tbX5_find_k 18 rfl) hl (k := 3) rfl (ii_e e7 ic_1) (by decide) rfl (fun ls hl => ?_)
      refine lv_goto (tgt := 2) hx hb (dc tbX5_find_k 19 rfl) rfl ?_
      exact hih2 x1 x2 x3_30 hf _ _ _ hI (lv_sub hl [1, 2, 3, 0] rfl)
    · have hf := ite_f c6 hf
      refine g_gsall hx hb hown hts hsx hI q_t5_142 (dc tbX5_find_k 14 rfl) ?_
      refine lv_iload_n hx hb (dc tbX5_find_k 15 rfl) rfl (lv_at hl 3 rfl) ?_
      obtain ⟨h8, hf⟩ := chk_s hf
      refine g_alld hx hb hsx hI (okb_in h8) (dc tbX5_find_k 16 rfl) ?_
      cases hf
      exact g_aret hx hb hr hlk hI (w := some (x3).toNatClampNeg) (dc tbX5_find_k 17 rfl)
def mX5_find_l2 (k0 : Nat) (M : Mem) : Nat → Int32 → Int32 → Int32 → Option (Option Nat)
  | 0 => fun _ _ _ => none
  | n + 1 => mX5_find_b2 k0 M (mX5_find_l2 k0 M n)
theorem tX5_find_l2 {p : Program} {l : Launch} {e : Env} {s : State} {m : MethodId} {args : Array Value} {below : List Frame} {meth : Method} {c : Code} {G : GT} {kd : Nat → Nat × Nat} {ad : Nat → Nat} (C : Cx p s m args meth c cX5_find 4 (some (.object "SheetFolder$Word")) RX5 G kd ad) {k0 : Nat} (hk0 : kd k0 = (11, 600)) {M : Mem} {vo : (Option Nat)}   : ∀ (fuel : Nat) (x1 : Int32) (x2 : Int32) (x3 : Int32), mX5_find_l2 k0 M fuel x1 x2 x3 = some vo → At p l e (rmO 5 0 0) s m args below meth c 0 0 (MQ below (Qg G kd ad s.heap.size M (some (va_re G.2.2 vo))) args s 0 0 (AS kd ad s.heap.size)) G kd ad 4 2 [(0, .ref (ad k0)), (1, .int x1), (2, .int x2), (3, .int x3)] [] M := by
  intro fuel
  induction fuel with
  | zero => intro x1 x2 x3 hf; cases hf
  | succ n IH => exact tX5_find_b2 C hk0 IH
def mX5_find (k0 : Nat) (x1 : Int32) (x2 : Int32) (M : Mem) : Option (Option Nat) := mX5_find_l2 k0 M 5000 x1 x2 (0 : Int32)
set_option maxHeartbeats 4000000 in
set_option maxRecDepth 100000 in
theorem tX5_find (l : Launch) {G : GT} {kd : Nat → Nat × Nat} {ad : Nat → Nat} {k0 : Nat} (hk0 : kd k0 = (11, 600)) {x1 : Int32} {x2 : Int32} {M : Mem} {vo : (Option Nat)} (hf : mX5_find k0 x1 x2 M = some vo) (n : Nat) : Met l yX5_find (Cond.code yX5_find cX5_find 4 (some (.object "SheetFolder$Word")) :: WA) (rmO 5 0 0) (Pg G kd ad n [.ref (ad k0), .int x1, .int x2] M) (Qg G kd ad n M (some (va_re G.2.2 vo))) 0 0 (AS kd ad n) := by
  refine g_body (own := RX5) (by decide) rfl ?_ (Nat.le_of_ble_eq_true rfl)
  intro p e s m args below meth c C _ H locs ls hI hl
  obtain ⟨hx, hb, hml, hr, hown, hts, hlk, hK, hap, hsx⟩ := id C
  have hl : lv_has ls 4 [(0, .ref (ad k0)), (1, .int x1), (2, .int x2)] := hl
  unfold mX5_find at hf
  refine lv_iconst (v := 0) hx hb (dc tbX5_find_k 0 rfl) ic_0 ?_
  refine lv_istore_n (lv' := [(3, .int (0 : Int32)), (0, .ref (ad k0)), (1, .int x1), (2, .int x2)]) hx hb (dc tbX5_find_k 1 rfl) rfl hl (by decide) rfl (fun ls hl => ?_)
  exact tX5_find_l2 C hk0 5000 x1 x2 (0 : Int32) hf _ _ _ hI (lv_sub hl [1, 2, 3, 0] rfl)
theorem cs_X5_find : csF yX5_find cX5_find 4 (some (.object "SheetFolder$Word")) 3 := ⟨q_t5_140, q_t1_17, q_t5_141, by decide +kernel⟩
def mX5_ofTool (x0 : Int32) (M : Mem) : Option (Option Nat) := ite2 (x0 = (0 : Int32)) (some (some 5)) (ite2 (x0 = (1 : Int32)) (some (some 6)) (ite2 (x0 = (2 : Int32)) (some (some 7)) (ite2 (x0 = (3 : Int32)) (some (some 8)) (ite2 (x0 = (4 : Int32)) (some (some 9)) (some none)))))
set_option maxHeartbeats 4000000 in
set_option maxRecDepth 100000 in
theorem tX5_ofTool (l : Launch) {G : GT} {kd : Nat → Nat × Nat} {ad : Nat → Nat}  {x0 : Int32} {M : Mem} {vo : (Option Nat)} (hf : mX5_ofTool  x0 M = some vo) (n : Nat) : Met l yX5_ofTool (Cond.code yX5_ofTool cX5_ofTool 1 (some (.object "SheetFolder$Word")) :: WA) (rmO 0 0 0) (Pg G kd ad n [.int x0] M) (Qg G kd ad n M (some (va_re G.2.2 vo))) 0 0 (AS kd ad n) := by
  refine g_body (own := RX5) (by decide) rfl ?_ (Nat.le_of_ble_eq_true rfl)
  intro p e s m args below meth c C _ H locs ls hI hl
  obtain ⟨hx, hb, hml, hr, hown, hts, hlk, hK, hap, hsx⟩ := id C
  have hl : lv_has ls 1 [(0, .int x0)] := hl
  unfold mX5_ofTool at hf
  refine lv_iload_n hx hb (dc tbX5_ofTool_k 0 rfl) rfl (lv_at hl 0 rfl) ?_
  refine by_c (c := x0 = (0 : Int32)) (fun c1 => ?_) (fun c1 => ?_)
  · have hf := ite_t c1 hf
    refine lv_et c1 ?_
    refine lv_tableIn (tgt := 36) hx hb dX5_ofTool_1 (by decide) (by decide) rfl rfl ?_
    refine g_gsW 5 (by decide) hx hb hown hts hsx hI q_t5_219 (dc tbX5_ofTool_k 1 rfl) ?_
    cases hf
    exact g_aret hx hb hr hlk hI (w := some 5) (dc tbX5_ofTool_k 2 rfl)
  · have hf := ite_f c1 hf
    refine by_c (c := x0 = (1 : Int32)) (fun c2 => ?_) (fun c2 => ?_)
    · have hf := ite_t c2 hf
      refine lv_et c2 ?_
      refine lv_tableIn (tgt := 40) hx hb dX5_ofTool_1 (by decide) (by decide) rfl rfl ?_
      refine g_gsW 6 (by decide) hx hb hown hts hsx hI q_t5_221 (dc tbX5_ofTool_k 3 rfl) ?_
      cases hf
      exact g_aret hx hb hr hlk hI (w := some 6) (dc tbX5_ofTool_k 4 rfl)
    · have hf := ite_f c2 hf
      refine by_c (c := x0 = (2 : Int32)) (fun c3 => ?_) (fun c3 => ?_)
      · have hf := ite_t c3 hf
        refine lv_et c3 ?_
        refine lv_tableIn (tgt := 44) hx hb dX5_ofTool_1 (by decide) (by decide) rfl rfl ?_
        refine g_gsW 7 (by decide) hx hb hown hts hsx hI q_t5_223 (dc tbX5_ofTool_k 5 rfl) ?_
        cases hf
        exact g_aret hx hb hr hlk hI (w := some 7) (dc tbX5_ofTool_k 6 rfl)
      · have hf := ite_f c3 hf
        refine by_c (c := x0 = (3 : Int32)) (fun c4 => ?_) (fun c4 => ?_)
        · have hf := ite_t c4 hf
          refine lv_et c4 ?_
          refine lv_tableIn (tgt := 48) hx hb dX5_ofTool_1 (by decide) (by decide) rfl rfl ?_
          refine g_gsW 8 (by decide) hx hb hown hts hsx hI q_t5_202 (dc tbX5_ofTool_k 7 rfl) ?_
          cases hf
          exact g_aret hx hb hr hlk hI (w := some 8) (dc tbX5_ofTool_k 8 rfl)
        · have hf := ite_f c4 hf
          refine by_c (c := x0 = (4 : Int32)) (fun c5 => ?_) (fun c5 => ?_)
          · have hf := ite_t c5 hf
            refine lv_et c5 ?_
            refine lv_tableIn (tgt := 52) hx hb dX5_ofTool_1 (by decide) (by decide) rfl rfl ?_
            refine g_gsW 9 (by decide) hx hb hown hts hsx hI q_t5_225 (dc tbX5_ofTool_k 9 rfl) ?_
            cases hf
            exact g_aret hx hb hr hlk hI (w := some 9) (dc tbX5_ofTool_k 10 rfl)
          · have hf := ite_f c5 hf
            refine lv_tableOut (tgt := 56) hx hb dX5_ofTool_1 (by have := sw_ne (k := 0) (z := 0) c1 rfl; have := sw_ne (k := 1) (z := 1) c2 rfl; have := sw_ne (k := 2) (z := 2) c3 rfl; have := sw_ne (k := 3) (z := 3) c4 rfl; have := sw_ne (k := 4) (z := 4) c5 rfl; omega) rfl ?_
            refine lv_null hx hb (dc tbX5_ofTool_k 11 rfl) ?_
            cases hf
            exact g_aret hx hb hr hlk hI (w := none) (dc tbX5_ofTool_k 12 rfl)
theorem cs_X5_ofTool : csF yX5_ofTool cX5_ofTool 1 (some (.object "SheetFolder$Word")) 1 := ⟨q_t5_217, q_t1_17, q_t5_218, by decide +kernel⟩
def mX5_toolNumber_b2 (k0 : Nat) (M : Mem) (ih2 : Int32 → Option Int32) (x1 : Int32) : Option Int32 := ite2 ((5 : Int32) ≤ x1) (some (-1 : Int32)) (cap (mX5_ofTool x1 M) (fun r3 => opt r3 (bnd (x1 + (1 : Int32)) (fun x1_17 => ih2 x1_17)) (fun w5 => chk (decide (w5 < 11)) (ite2 (w5 = k0) (some x1) (bnd (x1 + (1 : Int32)) (fun x1_17 => ih2 x1_17))))))
set_option maxHeartbeats 4000000 in
set_option maxRecDepth 100000 in
theorem tX5_toolNumber_b2 {p : Program} {l : Launch} {e : Env} {s : State} {m : MethodId} {args : Array Value} {below : List Frame} {meth : Method} {c : Code} {G : GT} {kd : Nat → Nat × Nat} {ad : Nat → Nat} (C : Cx p s m args meth c cX5_toolNumber 2 (some .int) RX5 G kd ad) {k0 : Nat} (hk0 : k0 < 11) {M : Mem} {vo : Int32} {ih2 : Int32 → Option Int32} (hih2 : ∀ (x1 : Int32), ih2 x1 = some vo → At p l e (rmO 1 0 0) s m args below meth c 0 0 (MQ below (Qg G kd ad s.heap.size M (some (.int vo))) args s 0 0 (AS kd ad s.heap.size)) G kd ad 2 2 [(0, .ref (G.2.2 k0)), (1, .int x1)] [] M) : ∀ (x1 : Int32), mX5_toolNumber_b2 k0 M ih2 x1 = some vo → At p l e (rmO 1 0 0) s m args below meth c 0 0 (MQ below (Qg G kd ad s.heap.size M (some (.int vo))) args s 0 0 (AS kd ad s.heap.size)) G kd ad 2 2 [(0, .ref (G.2.2 k0)), (1, .int x1)] [] M := by
  intro x1 hf H locs ls hI hl
  obtain ⟨hx, hb, hml, hr, hown, hts, hlk, hK, hap, hsx⟩ := id C
  unfold mX5_toolNumber_b2 at hf
  refine lv_iload_n hx hb (dc tbX5_toolNumber_k 2 rfl) rfl (lv_at hl 1 rfl) ?_
  refine lv_iconst (v := 5) hx hb (dc tbX5_toolNumber_k 3 rfl) ic_5 ?_
  refine lv_icmp_ge (tgt := 23) hx hb (dc tbX5_toolNumber_k 4 rfl) rfl (fun c1 => ?_) (fun c1 => ?_)
  · have hf := ite_t c1 hf
    refine lv_iconst (v := -1) hx hb (dc tbX5_toolNumber_k 13 rfl) ic_m1 ?_
    cases hf
    exact g_iret hx hb hr hlk hI (dc tbX5_toolNumber_k 14 rfl)
  · have hf := ite_f c1 hf
    refine lv_iload_n hx hb (dc tbX5_toolNumber_k 5 rfl) rfl (lv_at hl 1 rfl) ?_
    obtain ⟨r3, q2, hf⟩ := cap_s hf
    refine g_callSr hx hb hml hown hts hK hap hsx hI (tX5_ofTool l  q2 H.size) cs_X5_ofTool q_t5_216 rfl rfl ⟨Nat.le_of_ble_eq_true rfl, Nat.le_of_ble_eq_true rfl⟩ rfl hl.1 rfl (Nat.le_of_ble_eq_true rfl) (dc tbX5_toolNumber_k 6 rfl) ⟨Nat.le_of_ble_eq_true rfl, Nat.le_of_ble_eq_true rfl⟩ (fun H locs hI => ?_)
    rcases opt_s hf with ⟨e10, g11⟩ | ⟨w5, e10, g11⟩
    · subst e10
      have hf := g11
      refine lv_wn ?_
      refine lv_aload_n hx hb (dc tbX5_toolNumber_k 7 rfl) rfl (lv_at hl 0 rfl) ?_
      refine g_wneN (tgt := 17) hx hb (dc tbX5_toolNumber_k 8 rfl) rfl ?_
      obtain ⟨x1_17, e7, hf⟩ := bnd_s hf
      refine lv_iinc (v := x1_17) (lv' := [(1, .int x1_17), (0, .ref (G.2.2 k0))]) hx hb (dc tbX5_toolNumber_k 11 rfl) hl (k := 1) rfl (ii_e e7 ic_1) (by decide) rfl (fun ls hl => ?_)
      refine lv_goto (tgt := 2) hx hb (dc tbX5_toolNumber_k 12 rfl) rfl ?_
      exact hih2 x1_17 hf _ _ _ hI (lv_sub hl [1, 0] rfl)
    · subst e10
      obtain ⟨h6, hf⟩ := chk_s g11
      refine lv_ws ?_
      refine lv_aload_n hx hb (dc tbX5_toolNumber_k 7 rfl) rfl (lv_at hl 0 rfl) ?_
      refine g_wne (tgt := 17) hx hb hsx (of_decide_eq_true h6) hk0 (dc tbX5_toolNumber_k 8 rfl) rfl (fun c8 => ?_) (fun c8 => ?_)
      · have hf := ite_f c8 hf
        obtain ⟨x1_17, e9, hf⟩ := bnd_s hf
        refine lv_iinc (v := x1_17) (lv' := [(1, .int x1_17), (0, .ref (G.2.2 k0))]) hx hb (dc tbX5_toolNumber_k 11 rfl) hl (k := 1) rfl (ii_e e9 ic_1) (by decide) rfl (fun ls hl => ?_)
        refine lv_goto (tgt := 2) hx hb (dc tbX5_toolNumber_k 12 rfl) rfl ?_
        exact hih2 x1_17 hf _ _ _ hI (lv_sub hl [1, 0] rfl)
      · have hf := ite_t c8 hf
        refine lv_iload_n hx hb (dc tbX5_toolNumber_k 9 rfl) rfl (lv_at hl 1 rfl) ?_
        cases hf
        exact g_iret hx hb hr hlk hI (dc tbX5_toolNumber_k 10 rfl)
def mX5_toolNumber_l2 (k0 : Nat) (M : Mem) : Nat → Int32 → Option Int32
  | 0 => fun _ => none
  | n + 1 => mX5_toolNumber_b2 k0 M (mX5_toolNumber_l2 k0 M n)
theorem tX5_toolNumber_l2 {p : Program} {l : Launch} {e : Env} {s : State} {m : MethodId} {args : Array Value} {below : List Frame} {meth : Method} {c : Code} {G : GT} {kd : Nat → Nat × Nat} {ad : Nat → Nat} (C : Cx p s m args meth c cX5_toolNumber 2 (some .int) RX5 G kd ad) {k0 : Nat} (hk0 : k0 < 11) {M : Mem} {vo : Int32}   : ∀ (fuel : Nat) (x1 : Int32), mX5_toolNumber_l2 k0 M fuel x1 = some vo → At p l e (rmO 1 0 0) s m args below meth c 0 0 (MQ below (Qg G kd ad s.heap.size M (some (.int vo))) args s 0 0 (AS kd ad s.heap.size)) G kd ad 2 2 [(0, .ref (G.2.2 k0)), (1, .int x1)] [] M := by
  intro fuel
  induction fuel with
  | zero => intro x1 hf; cases hf
  | succ n IH => exact tX5_toolNumber_b2 C hk0 IH
def mX5_toolNumber (k0 : Nat) (M : Mem) : Option Int32 := mX5_toolNumber_l2 k0 M 5000 (0 : Int32)
set_option maxHeartbeats 4000000 in
set_option maxRecDepth 100000 in
theorem tX5_toolNumber (l : Launch) {G : GT} {kd : Nat → Nat × Nat} {ad : Nat → Nat} {k0 : Nat} (hk0 : k0 < 11) {M : Mem} {vo : Int32} (hf : mX5_toolNumber k0 M = some vo) (n : Nat) : Met l yX5_toolNumber (Cond.code yX5_toolNumber cX5_toolNumber 2 (some .int) :: WA) (rmO 1 0 0) (Pg G kd ad n [.ref (G.2.2 k0)] M) (Qg G kd ad n M (some (.int vo))) 0 0 (AS kd ad n) := by
  refine g_body (own := RX5) (by decide) rfl ?_ (Nat.le_of_ble_eq_true rfl)
  intro p e s m args below meth c C _ H locs ls hI hl
  obtain ⟨hx, hb, hml, hr, hown, hts, hlk, hK, hap, hsx⟩ := id C
  have hl : lv_has ls 2 [(0, .ref (G.2.2 k0))] := hl
  unfold mX5_toolNumber at hf
  refine lv_iconst (v := 0) hx hb (dc tbX5_toolNumber_k 0 rfl) ic_0 ?_
  refine lv_istore_n (lv' := [(1, .int (0 : Int32)), (0, .ref (G.2.2 k0))]) hx hb (dc tbX5_toolNumber_k 1 rfl) rfl hl (by decide) rfl (fun ls hl => ?_)
  exact tX5_toolNumber_l2 C hk0 5000 (0 : Int32) hf _ _ _ hI (lv_sub hl [1, 0] rfl)
theorem cv_X5_toolNumber : cvF RX5 yX5_toolNumber cX5_toolNumber 2 (some .int) 0 := ⟨q_t5_213, q_t5_214, q_t1_17, q_t5_215, by decide +kernel⟩
def mX5_numberCount (k0 : Nat) (M : Mem) : Option Int32 := ite2 ((wF3.getD k0 0) ≤ 0) (ite2 ((wF2.getD k0 0) ≤ 0) (some (1 : Int32)) (some (2 : Int32))) (some (3 : Int32))
set_option maxHeartbeats 4000000 in
set_option maxRecDepth 100000 in
theorem tX5_numberCount (l : Launch) {G : GT} {kd : Nat → Nat × Nat} {ad : Nat → Nat} {k0 : Nat} (hk0 : k0 < 11) {M : Mem} {vo : Int32} (hf : mX5_numberCount k0 M = some vo) (n : Nat) : Met l yX5_numberCount (Cond.code yX5_numberCount cX5_numberCount 1 (some .int) :: WA) (rmO 0 0 0) (Pg G kd ad n [.ref (G.2.2 k0)] M) (Qg G kd ad n M (some (.int vo))) 0 0 (AS kd ad n) := by
  refine g_body (own := RX5) (by decide) rfl ?_ (Nat.le_of_ble_eq_true rfl)
  intro p e s m args below meth c C _ H locs ls hI hl
  obtain ⟨hx, hb, hml, hr, hown, hts, hlk, hK, hap, hsx⟩ := id C
  have hl : lv_has ls 1 [(0, .ref (G.2.2 k0))] := hl
  unfold mX5_numberCount at hf
  refine lv_aload_n hx hb (dc tbX5_numberCount_k 0 rfl) rfl (lv_at hl 0 rfl) ?_
  refine g_wf3 hx hb hown hts hsx hI hk0 q_t10_38 (dc tbX5_numberCount_k 1 rfl) ?_
  refine lv_if_le (tgt := 11) hx hb (dc tbX5_numberCount_k 2 rfl) rfl (fun c1 => ?_) (fun c1 => ?_)
  · have hf := ite_t c1 hf
    refine lv_aload_n hx hb (dc tbX5_numberCount_k 5 rfl) rfl (lv_at hl 0 rfl) ?_
    refine g_wf2 hx hb hown hts hsx hI hk0 q_t10_39 (dc tbX5_numberCount_k 6 rfl) ?_
    refine lv_if_le (tgt := 22) hx hb (dc tbX5_numberCount_k 7 rfl) rfl (fun c2 => ?_) (fun c2 => ?_)
    · have hf := ite_t c2 hf
      refine lv_iconst (v := 1) hx hb (dc tbX5_numberCount_k 10 rfl) ic_1 ?_
      cases hf
      exact g_iret hx hb hr hlk hI (dc tbX5_numberCount_k 11 rfl)
    · have hf := ite_f c2 hf
      refine lv_iconst (v := 2) hx hb (dc tbX5_numberCount_k 8 rfl) ic_2 ?_
      refine lv_goto (tgt := 23) hx hb (dc tbX5_numberCount_k 9 rfl) rfl ?_
      cases hf
      exact g_iret hx hb hr hlk hI (dc tbX5_numberCount_k 11 rfl)
  · have hf := ite_f c1 hf
    refine lv_iconst (v := 3) hx hb (dc tbX5_numberCount_k 3 rfl) ic_3 ?_
    refine lv_goto (tgt := 23) hx hb (dc tbX5_numberCount_k 4 rfl) rfl ?_
    cases hf
    exact g_iret hx hb hr hlk hI (dc tbX5_numberCount_k 11 rfl)
theorem cv_X5_numberCount : cvF RX5 yX5_numberCount cX5_numberCount 1 (some .int) 0 := ⟨q_t5_186, q_t5_187, q_t1_17, q_t5_188, by decide +kernel⟩
def mX5_allows (k0 : Nat) (x1 : Int32) (x2 : Int32) (M : Mem) : Option Int32 := ite2 (x1 = (0 : Int32)) (ite2 (x2 < (wF0.getD k0 0)) (some (0 : Int32)) (ite2 ((wF1.getD k0 0) < x2) (some (0 : Int32)) (some (1 : Int32)))) (ite2 (x1 = (1 : Int32)) (ite2 (x2 < 0) (some (0 : Int32)) (ite2 ((wF2.getD k0 0) < x2) (some (0 : Int32)) (some (1 : Int32)))) (ite2 (x2 < 0) (some (0 : Int32)) (ite2 ((wF3.getD k0 0) < x2) (some (0 : Int32)) (some (1 : Int32)))))
set_option maxHeartbeats 4000000 in
set_option maxRecDepth 100000 in
theorem tX5_allows (l : Launch) {G : GT} {kd : Nat → Nat × Nat} {ad : Nat → Nat} {k0 : Nat} (hk0 : k0 < 11) {x1 : Int32} {x2 : Int32} {M : Mem} {vo : Int32} (hf : mX5_allows k0 x1 x2 M = some vo) (n : Nat) : Met l yX5_allows (Cond.code yX5_allows cX5_allows 3 (some .boolean) :: WA) (rmO 0 0 0) (Pg G kd ad n [.ref (G.2.2 k0), .int x1, .int x2] M) (Qg G kd ad n M (some (.int vo))) 0 0 (AS kd ad n) := by
  refine g_body (own := RX5) (by decide) rfl ?_ (Nat.le_of_ble_eq_true rfl)
  intro p e s m args below meth c C _ H locs ls hI hl
  obtain ⟨hx, hb, hml, hr, hown, hts, hlk, hK, hap, hsx⟩ := id C
  have hl : lv_has ls 3 [(0, .ref (G.2.2 k0)), (1, .int x1), (2, .int x2)] := hl
  unfold mX5_allows at hf
  refine lv_iload_n hx hb (dc tbX5_allows_k 0 rfl) rfl (lv_at hl 1 rfl) ?_
  refine by_c (c := x1 = (0 : Int32)) (fun c1 => ?_) (fun c1 => ?_)
  · have hf := ite_t c1 hf
    refine lv_et c1 ?_
    refine lv_lookup (tgt := 28) hx hb dX5_allows_1 (by decide) rfl rfl ?_
    refine lv_iload_n hx hb (dc tbX5_allows_k 1 rfl) rfl (lv_at hl 2 rfl) ?_
    refine lv_aload_n hx hb (dc tbX5_allows_k 2 rfl) rfl (lv_at hl 0 rfl) ?_
    refine g_wf0 hx hb hown hts hsx hI hk0 q_t10_40 (dc tbX5_allows_k 3 rfl) ?_
    refine lv_icmp_lt (tgt := 48) hx hb (dc tbX5_allows_k 4 rfl) rfl (fun c2 => ?_) (fun c2 => ?_)
    · have hf := ite_t c2 hf
      refine lv_iconst (v := 0) hx hb (dc tbX5_allows_k 11 rfl) ic_0 ?_
      cases hf
      exact g_zret hx hb hr hlk hI rfl (dc tbX5_allows_k 12 rfl)
    · have hf := ite_f c2 hf
      refine lv_iload_n hx hb (dc tbX5_allows_k 5 rfl) rfl (lv_at hl 2 rfl) ?_
      refine lv_aload_n hx hb (dc tbX5_allows_k 6 rfl) rfl (lv_at hl 0 rfl) ?_
      refine g_wf1 hx hb hown hts hsx hI hk0 q_t10_41 (dc tbX5_allows_k 7 rfl) ?_
      refine lv_icmp_gt (tgt := 48) hx hb (dc tbX5_allows_k 8 rfl) rfl (fun c3 => ?_) (fun c3 => ?_)
      · have hf := ite_t c3 hf
        refine lv_iconst (v := 0) hx hb (dc tbX5_allows_k 11 rfl) ic_0 ?_
        cases hf
        exact g_zret hx hb hr hlk hI rfl (dc tbX5_allows_k 12 rfl)
      · have hf := ite_f c3 hf
        refine lv_iconst (v := 1) hx hb (dc tbX5_allows_k 9 rfl) ic_1 ?_
        refine lv_goto (tgt := 49) hx hb (dc tbX5_allows_k 10 rfl) rfl ?_
        cases hf
        exact g_zret hx hb hr hlk hI rfl (dc tbX5_allows_k 12 rfl)
  · have hf := ite_f c1 hf
    refine by_c (c := x1 = (1 : Int32)) (fun c4 => ?_) (fun c4 => ?_)
    · have hf := ite_t c4 hf
      refine lv_et c4 ?_
      refine lv_lookup (tgt := 50) hx hb dX5_allows_1 (by decide) rfl rfl ?_
      refine lv_iload_n hx hb (dc tbX5_allows_k 13 rfl) rfl (lv_at hl 2 rfl) ?_
      refine lv_if_lt (tgt := 66) hx hb (dc tbX5_allows_k 14 rfl) rfl (fun c5 => ?_) (fun c5 => ?_)
      · have hf := ite_t c5 hf
        refine lv_iconst (v := 0) hx hb (dc tbX5_allows_k 21 rfl) ic_0 ?_
        cases hf
        exact g_zret hx hb hr hlk hI rfl (dc tbX5_allows_k 22 rfl)
      · have hf := ite_f c5 hf
        refine lv_iload_n hx hb (dc tbX5_allows_k 15 rfl) rfl (lv_at hl 2 rfl) ?_
        refine lv_aload_n hx hb (dc tbX5_allows_k 16 rfl) rfl (lv_at hl 0 rfl) ?_
        refine g_wf2 hx hb hown hts hsx hI hk0 q_t10_39 (dc tbX5_allows_k 17 rfl) ?_
        refine lv_icmp_gt (tgt := 66) hx hb (dc tbX5_allows_k 18 rfl) rfl (fun c6 => ?_) (fun c6 => ?_)
        · have hf := ite_t c6 hf
          refine lv_iconst (v := 0) hx hb (dc tbX5_allows_k 21 rfl) ic_0 ?_
          cases hf
          exact g_zret hx hb hr hlk hI rfl (dc tbX5_allows_k 22 rfl)
        · have hf := ite_f c6 hf
          refine lv_iconst (v := 1) hx hb (dc tbX5_allows_k 19 rfl) ic_1 ?_
          refine lv_goto (tgt := 67) hx hb (dc tbX5_allows_k 20 rfl) rfl ?_
          cases hf
          exact g_zret hx hb hr hlk hI rfl (dc tbX5_allows_k 22 rfl)
    · have hf := ite_f c4 hf
      refine lv_lookup (off := 67) (tgt := 68) hx hb dX5_allows_1 (by decide) (by show Op.lookupswitch.offset [(0, 27), (1, 49)] 67 _ = _; rw [lv_osw (a := 0) c1 rfl, lv_osw (a := 1) c4 rfl]; rfl) rfl ?_
      refine lv_iload_n hx hb (dc tbX5_allows_k 23 rfl) rfl (lv_at hl 2 rfl) ?_
      refine lv_if_lt (tgt := 84) hx hb (dc tbX5_allows_k 24 rfl) rfl (fun c7 => ?_) (fun c7 => ?_)
      · have hf := ite_t c7 hf
        refine lv_iconst (v := 0) hx hb (dc tbX5_allows_k 31 rfl) ic_0 ?_
        cases hf
        exact g_zret hx hb hr hlk hI rfl (dc tbX5_allows_k 32 rfl)
      · have hf := ite_f c7 hf
        refine lv_iload_n hx hb (dc tbX5_allows_k 25 rfl) rfl (lv_at hl 2 rfl) ?_
        refine lv_aload_n hx hb (dc tbX5_allows_k 26 rfl) rfl (lv_at hl 0 rfl) ?_
        refine g_wf3 hx hb hown hts hsx hI hk0 q_t10_38 (dc tbX5_allows_k 27 rfl) ?_
        refine lv_icmp_gt (tgt := 84) hx hb (dc tbX5_allows_k 28 rfl) rfl (fun c8 => ?_) (fun c8 => ?_)
        · have hf := ite_t c8 hf
          refine lv_iconst (v := 0) hx hb (dc tbX5_allows_k 31 rfl) ic_0 ?_
          cases hf
          exact g_zret hx hb hr hlk hI rfl (dc tbX5_allows_k 32 rfl)
        · have hf := ite_f c8 hf
          refine lv_iconst (v := 1) hx hb (dc tbX5_allows_k 29 rfl) ic_1 ?_
          refine lv_goto (tgt := 85) hx hb (dc tbX5_allows_k 30 rfl) rfl ?_
          cases hf
          exact g_zret hx hb hr hlk hI rfl (dc tbX5_allows_k 32 rfl)
theorem cv_X5_allows : cvF RX5 yX5_allows cX5_allows 3 (some .boolean) 2 := ⟨q_t5_194, q_t5_195, q_t1_17, q_t5_196, by decide +kernel⟩
def mX5_allowsBehind_b21 (k0 : Nat) (M : Mem) : Option Int32 := some (1 : Int32)
set_option maxHeartbeats 4000000 in
set_option maxRecDepth 100000 in
theorem tX5_allowsBehind_b21 {p : Program} {l : Launch} {e : Env} {s : State} {m : MethodId} {args : Array Value} {below : List Frame} {meth : Method} {c : Code} {G : GT} {kd : Nat → Nat × Nat} {ad : Nat → Nat} (C : Cx p s m args meth c cX5_allowsBehind 4 (some .boolean) RX5 G kd ad) {k0 : Nat} (hk0 : k0 < 11) {M : Mem} {vo : Int32}   : mX5_allowsBehind_b21 k0 M = some vo → At p l e (rmO 1 0 0) s m args below meth c 0 0 (MQ below (Qg G kd ad s.heap.size M (some (.int vo))) args s 0 0 (AS kd ad s.heap.size)) G kd ad 4 21 [] [] M := by
  intro hf H locs ls hI hl
  obtain ⟨hx, hb, hml, hr, hown, hts, hlk, hK, hap, hsx⟩ := id C
  unfold mX5_allowsBehind_b21 at hf
  refine lv_iconst (v := 1) hx hb (dc tbX5_allowsBehind_k 11 rfl) ic_1 ?_
  refine lv_goto (tgt := 26) hx hb (dc tbX5_allowsBehind_k 12 rfl) rfl ?_
  cases hf
  exact g_zret hx hb hr hlk hI rfl (dc tbX5_allowsBehind_k 14 rfl)
def mX5_allowsBehind (k0 : Nat) (x1 : Int32) (x2 : Int32) (x3 : Int32) (M : Mem) : Option Int32 := cap (mX5_allows k0 x2 x3 M) (fun r2 => ite2 (r2 = 0) (some (0 : Int32)) (ite2 (k0 = 8) (ite2 (x3 < x1) (some (0 : Int32)) (mX5_allowsBehind_b21 k0 M)) (mX5_allowsBehind_b21 k0 M)))
set_option maxHeartbeats 4000000 in
set_option maxRecDepth 100000 in
theorem tX5_allowsBehind (l : Launch) {G : GT} {kd : Nat → Nat × Nat} {ad : Nat → Nat} {k0 : Nat} (hk0 : k0 < 11) {x1 : Int32} {x2 : Int32} {x3 : Int32} {M : Mem} {vo : Int32} (hf : mX5_allowsBehind k0 x1 x2 x3 M = some vo) (n : Nat) : Met l yX5_allowsBehind (Cond.code yX5_allowsBehind cX5_allowsBehind 4 (some .boolean) :: WA) (rmO 1 0 0) (Pg G kd ad n [.ref (G.2.2 k0), .int x1, .int x2, .int x3] M) (Qg G kd ad n M (some (.int vo))) 0 0 (AS kd ad n) := by
  refine g_body (own := RX5) (by decide) rfl ?_ (Nat.le_of_ble_eq_true rfl)
  intro p e s m args below meth c C _ H locs ls hI hl
  obtain ⟨hx, hb, hml, hr, hown, hts, hlk, hK, hap, hsx⟩ := id C
  have hl : lv_has ls 4 [(0, .ref (G.2.2 k0)), (1, .int x1), (2, .int x2), (3, .int x3)] := hl
  unfold mX5_allowsBehind at hf
  refine lv_aload_n hx hb (dc tbX5_allowsBehind_k 0 rfl) rfl (lv_at hl 0 rfl) ?_
  refine lv_iload_n hx hb (dc tbX5_allowsBehind_k 1 rfl) rfl (lv_at hl 2 rfl) ?_
  refine lv_iload_n hx hb (dc tbX5_allowsBehind_k 2 rfl) rfl (lv_at hl 3 rfl) ?_
  obtain ⟨r2, q1, hf⟩ := cap_s hf
  refine g_callWi hx hb hml hown hts hK hap hsx hI (tX5_allows l hk0 q1 H.size) cv_X5_allows q_t5_201 rfl rfl ⟨Nat.le_of_ble_eq_true rfl, Nat.le_of_ble_eq_true rfl⟩ hk0 rfl hl.1 rfl (Nat.le_of_ble_eq_true rfl) (dc tbX5_allowsBehind_k 3 rfl) ⟨Nat.le_of_ble_eq_true rfl, Nat.le_of_ble_eq_true rfl⟩ (fun H locs hI => ?_)
  refine lv_if_eq (tgt := 25) hx hb (dc tbX5_allowsBehind_k 4 rfl) rfl (fun c4 => ?_) (fun c4 => ?_)
  · have hf := ite_t c4 hf
    refine lv_iconst (v := 0) hx hb (dc tbX5_allowsBehind_k 13 rfl) ic_0 ?_
    cases hf
    exact g_zret hx hb hr hlk hI rfl (dc tbX5_allowsBehind_k 14 rfl)
  · have hf := ite_f c4 hf
    refine lv_aload_n hx hb (dc tbX5_allowsBehind_k 5 rfl) rfl (lv_at hl 0 rfl) ?_
    refine g_gsW 8 (by decide) hx hb hown hts hsx hI q_t5_202 (dc tbX5_allowsBehind_k 6 rfl) ?_
    refine g_wne (tgt := 21) hx hb hsx hk0 (by decide) (dc tbX5_allowsBehind_k 7 rfl) rfl (fun c5 => ?_) (fun c5 => ?_)
    · have hf := ite_f c5 hf
      exact tX5_allowsBehind_b21 C hk0 hf _ _ _ hI (lv_sub hl [] rfl)
    · have hf := ite_t c5 hf
      refine lv_iload_n hx hb (dc tbX5_allowsBehind_k 8 rfl) rfl (lv_at hl 3 rfl) ?_
      refine lv_iload_n hx hb (dc tbX5_allowsBehind_k 9 rfl) rfl (lv_at hl 1 rfl) ?_
      refine lv_icmp_lt (tgt := 25) hx hb (dc tbX5_allowsBehind_k 10 rfl) rfl (fun c6 => ?_) (fun c6 => ?_)
      · have hf := ite_t c6 hf
        refine lv_iconst (v := 0) hx hb (dc tbX5_allowsBehind_k 13 rfl) ic_0 ?_
        cases hf
        exact g_zret hx hb hr hlk hI rfl (dc tbX5_allowsBehind_k 14 rfl)
      · have hf := ite_f c6 hf
        exact tX5_allowsBehind_b21 C hk0 hf _ _ _ hI (lv_sub hl [] rfl)
theorem cv_X5_allowsBehind : cvF RX5 yX5_allowsBehind cX5_allowsBehind 4 (some .boolean) 3 := ⟨q_t5_198, q_t5_199, q_t1_17, q_t5_200, by decide +kernel⟩
def mX5_isBend_b14 (k0 : Nat) (M : Mem) : Option Int32 := some (1 : Int32)
set_option maxHeartbeats 4000000 in
set_option maxRecDepth 100000 in
theorem tX5_isBend_b14 {p : Program} {l : Launch} {e : Env} {s : State} {m : MethodId} {args : Array Value} {below : List Frame} {meth : Method} {c : Code} {G : GT} {kd : Nat → Nat × Nat} {ad : Nat → Nat} (C : Cx p s m args meth c cX5_isBend 1 (some .boolean) RX5 G kd ad) {k0 : Nat} (hk0 : k0 < 11) {M : Mem} {vo : Int32}   : mX5_isBend_b14 k0 M = some vo → At p l e (rmO 0 0 0) s m args below meth c 0 0 (MQ below (Qg G kd ad s.heap.size M (some (.int vo))) args s 0 0 (AS kd ad s.heap.size)) G kd ad 1 14 [] [] M := by
  intro hf H locs ls hI hl
  obtain ⟨hx, hb, hml, hr, hown, hts, hlk, hK, hap, hsx⟩ := id C
  unfold mX5_isBend_b14 at hf
  refine lv_iconst (v := 1) hx hb (dc tbX5_isBend_k 6 rfl) ic_1 ?_
  refine lv_goto (tgt := 19) hx hb (dc tbX5_isBend_k 7 rfl) rfl ?_
  cases hf
  exact g_zret hx hb hr hlk hI rfl (dc tbX5_isBend_k 9 rfl)
def mX5_isBend (k0 : Nat) (M : Mem) : Option Int32 := ite2 (k0 = 2) (mX5_isBend_b14 k0 M) (ite2 (k0 = 3) (mX5_isBend_b14 k0 M) (some (0 : Int32)))
set_option maxHeartbeats 4000000 in
set_option maxRecDepth 100000 in
theorem tX5_isBend (l : Launch) {G : GT} {kd : Nat → Nat × Nat} {ad : Nat → Nat} {k0 : Nat} (hk0 : k0 < 11) {M : Mem} {vo : Int32} (hf : mX5_isBend k0 M = some vo) (n : Nat) : Met l yX5_isBend (Cond.code yX5_isBend cX5_isBend 1 (some .boolean) :: WA) (rmO 0 0 0) (Pg G kd ad n [.ref (G.2.2 k0)] M) (Qg G kd ad n M (some (.int vo))) 0 0 (AS kd ad n) := by
  refine g_body (own := RX5) (by decide) rfl ?_ (Nat.le_of_ble_eq_true rfl)
  intro p e s m args below meth c C _ H locs ls hI hl
  obtain ⟨hx, hb, hml, hr, hown, hts, hlk, hK, hap, hsx⟩ := id C
  have hl : lv_has ls 1 [(0, .ref (G.2.2 k0))] := hl
  unfold mX5_isBend at hf
  refine lv_aload_n hx hb (dc tbX5_isBend_k 0 rfl) rfl (lv_at hl 0 rfl) ?_
  refine g_gsW 2 (by decide) hx hb hown hts hsx hI q_t5_178 (dc tbX5_isBend_k 1 rfl) ?_
  refine g_weq (tgt := 14) hx hb hsx hk0 (by decide) (dc tbX5_isBend_k 2 rfl) rfl (fun c1 => ?_) (fun c1 => ?_)
  · have hf := ite_t c1 hf
    exact tX5_isBend_b14 C hk0 hf _ _ _ hI (lv_sub hl [] rfl)
  · have hf := ite_f c1 hf
    refine lv_aload_n hx hb (dc tbX5_isBend_k 3 rfl) rfl (lv_at hl 0 rfl) ?_
    refine g_gsW 3 (by decide) hx hb hown hts hsx hI q_t5_180 (dc tbX5_isBend_k 4 rfl) ?_
    refine g_wne (tgt := 18) hx hb hsx hk0 (by decide) (dc tbX5_isBend_k 5 rfl) rfl (fun c2 => ?_) (fun c2 => ?_)
    · have hf := ite_f c2 hf
      refine lv_iconst (v := 0) hx hb (dc tbX5_isBend_k 8 rfl) ic_0 ?_
      cases hf
      exact g_zret hx hb hr hlk hI rfl (dc tbX5_isBend_k 9 rfl)
    · have hf := ite_t c2 hf
      exact tX5_isBend_b14 C hk0 hf _ _ _ hI (lv_sub hl [] rfl)
theorem cv_X5_isBend : cvF RX5 yX5_isBend cX5_isBend 1 (some .boolean) 0 := ⟨q_t5_175, q_t5_176, q_t1_17, q_t5_177, by decide +kernel⟩
