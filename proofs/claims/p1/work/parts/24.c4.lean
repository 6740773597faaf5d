def mX4_isSpace_b12 (M : Mem) : Option Int32 := some (1 : Int32)
set_option maxHeartbeats 4000000 in
set_option maxRecDepth 100000 in
theorem tX4_isSpace_b12 {p : Program} {l : Launch} {e : Env} {s : State} {m : MethodId} {args : Array Value} {below : List Frame} {meth : Method} {c : Code} {G : GT} {kd : Nat → Nat × Nat} {ad : Nat → Nat} (C : Cx p s m args meth c cX4_isSpace 1 (some .boolean) RX4 G kd ad)  {M : Mem} {vo : Int32}   : mX4_isSpace_b12  M = some vo → At p l e (rmO 0 0 0) s m args below meth c 0 0 (MQ below (Qg G kd ad s.heap.size M (some (.int vo))) args s 0 0 (AS kd ad s.heap.size)) G kd ad 1 12 [] [] M := by
  intro hf H locs ls hI hl
  obtain ⟨hx, hb, hml, hr, hown, hts, hlk, hK, hap, hsx⟩ := id C
  unfold mX4_isSpace_b12 at hf
  refine lv_iconst (v := 1) hx hb (dc tbX4_isSpace_k 6 rfl) ic_1 ?_
  refine lv_goto (tgt := 17) hx hb (dc tbX4_isSpace_k 7 rfl) rfl ?_
  cases hf
  exact g_zret hx hb hr hlk hI rfl (dc tbX4_isSpace_k 9 rfl)
def mX4_isSpace (x0 : Int32) (M : Mem) : Option Int32 := ite2 (x0 = (32 : Int32)) (mX4_isSpace_b12  M) (ite2 (x0 = (10 : Int32)) (mX4_isSpace_b12  M) (some (0 : Int32)))
set_option maxHeartbeats 4000000 in
set_option maxRecDepth 100000 in
theorem tX4_isSpace (l : Launch) {G : GT} {kd : Nat → Nat × Nat} {ad : Nat → Nat}  {x0 : Int32} {M : Mem} {vo : Int32} (hf : mX4_isSpace  x0 M = some vo) (n : Nat) : Met l yX4_isSpace (Cond.code yX4_isSpace cX4_isSpace 1 (some .boolean) :: WA) (rmO 0 0 0) (Pg G kd ad n [.int x0] M) (Qg G kd ad n M (some (.int vo))) 0 0 (AS kd ad n) := by
  refine g_body (own := RX4) (by decide) rfl ?_ (Nat.le_of_ble_eq_true rfl)
  intro p e s m args below meth c C _ H locs ls hI hl
  obtain ⟨hx, hb, hml, hr, hown, hts, hlk, hK, hap, hsx⟩ := id C
  have hl : lv_has ls 1 [(0, .int x0)] := hl
  unfold mX4_isSpace at hf
  refine lv_iload_n hx hb (dc tbX4_isSpace_k 0 rfl) rfl (lv_at hl 0 rfl) ?_
  refine lv_bipush (v := 32) hx hb (dc tbX4_isSpace_k 1 rfl) bp_32 ?_
  refine lv_icmp_eq (tgt := 12) hx hb (dc tbX4_isSpace_k 2 rfl) rfl (fun c1 => ?_) (fun c1 => ?_)
  · have hf := ite_t c1 hf
    exact tX4_isSpace_b12 C  hf _ _ _ hI (lv_sub hl [] rfl)
  · have hf := ite_f c1 hf
    refine lv_iload_n hx hb (dc tbX4_isSpace_k 3 rfl) rfl (lv_at hl 0 rfl) ?_
    refine lv_bipush (v := 10) hx hb (dc tbX4_isSpace_k 4 rfl) bp_10 ?_
    refine lv_icmp_ne (tgt := 16) hx hb (dc tbX4_isSpace_k 5 rfl) rfl (fun c2 => ?_) (fun c2 => ?_)
    · have hf := ite_f c2 hf
      refine lv_iconst (v := 0) hx hb (dc tbX4_isSpace_k 8 rfl) ic_0 ?_
      cases hf
      exact g_zret hx hb hr hlk hI rfl (dc tbX4_isSpace_k 9 rfl)
    · have hf := ite_t c2 hf
      exact tX4_isSpace_b12 C  hf _ _ _ hI (lv_sub hl [] rfl)
theorem cs_X4_isSpace : csF yX4_isSpace cX4_isSpace 1 (some .boolean) 1 := ⟨q_t5_119, q_t1_2, q_t5_120, by decide +kernel⟩
def mX4_isLetter (x0 : Int32) (M : Mem) : Option Int32 := ite2 (x0 < (97 : Int32)) (some (0 : Int32)) (ite2 ((122 : Int32) < x0) (some (0 : Int32)) (some (1 : Int32)))
set_option maxHeartbeats 4000000 in
set_option maxRecDepth 100000 in
theorem tX4_isLetter (l : Launch) {G : GT} {kd : Nat → Nat × Nat} {ad : Nat → Nat}  {x0 : Int32} {M : Mem} {vo : Int32} (hf : mX4_isLetter  x0 M = some vo) (n : Nat) : Met l yX4_isLetter (Cond.code yX4_isLetter cX4_isLetter 1 (some .boolean) :: WA) (rmO 0 0 0) (Pg G kd ad n [.int x0] M) (Qg G kd ad n M (some (.int vo))) 0 0 (AS kd ad n) := by
  refine g_body (own := RX4) (by decide) rfl ?_ (Nat.le_of_ble_eq_true rfl)
  intro p e s m args below meth c C _ H locs ls hI hl
  obtain ⟨hx, hb, hml, hr, hown, hts, hlk, hK, hap, hsx⟩ := id C
  have hl : lv_has ls 1 [(0, .int x0)] := hl
  unfold mX4_isLetter at hf
  refine lv_iload_n hx hb (dc tbX4_isLetter_k 0 rfl) rfl (lv_at hl 0 rfl) ?_
  refine lv_bipush (v := 97) hx hb (dc tbX4_isLetter_k 1 rfl) bp_97 ?_
  refine lv_icmp_lt (tgt := 16) hx hb (dc tbX4_isLetter_k 2 rfl) rfl (fun c1 => ?_) (fun c1 => ?_)
  · have hf := ite_t c1 hf
    refine lv_iconst (v := 0) hx hb (dc tbX4_isLetter_k 8 rfl) ic_0 ?_
    cases hf
    exact g_zret hx hb hr hlk hI rfl (dc tbX4_isLetter_k 9 rfl)
  · have hf := ite_f c1 hf
    refine lv_iload_n hx hb (dc tbX4_isLetter_k 3 rfl) rfl (lv_at hl 0 rfl) ?_
    refine lv_bipush (v := 122) hx hb (dc tbX4_isLetter_k 4 rfl) bp_122 ?_
    refine lv_icmp_gt (tgt := 16) hx hb (dc tbX4_isLetter_k 5 rfl) rfl (fun c2 => ?_) (fun c2 => ?_)
    · have hf := ite_t c2 hf
      refine lv_iconst (v := 0) hx hb (dc tbX4_isLetter_k 8 rfl) ic_0 ?_
      cases hf
      exact g_zret hx hb hr hlk hI rfl (dc tbX4_isLetter_k 9 rfl)
    · have hf := ite_f c2 hf
      refine lv_iconst (v := 1) hx hb (dc tbX4_isLetter_k 6 rfl) ic_1 ?_
      refine lv_goto (tgt := 17) hx hb (dc tbX4_isLetter_k 7 rfl) rfl ?_
      cases hf
      exact g_zret hx hb hr hlk hI rfl (dc tbX4_isLetter_k 9 rfl)
theorem cs_X4_isLetter : csF yX4_isLetter cX4_isLetter 1 (some .boolean) 1 := ⟨q_t5_122, q_t1_2, q_t5_123, by decide +kernel⟩
def mX4_takeWord_b39 (k0 : Nat) (M : Mem) : Option (Mem × Unit) := ite2 ((6 : Int32) < ((rd M k0 5) - (rd M k0 4))) (bnd (wr M k0 6 (1 : Int32)) (fun M3 => some (M3, ()))) (bnd (wr M k0 6 (2 : Int32)) (fun M5 => some (M5, ())))
set_option maxHeartbeats 4000000 in
set_option maxRecDepth 100000 in
theorem tX4_takeWord_b39 {p : Program} {l : Launch} {e : Env} {s : State} {m : MethodId} {args : Array Value} {below : List Frame} {meth : Method} {c : Code} {G : GT} {kd : Nat → Nat × Nat} {ad : Nat → Nat} (C : Cx p s m args meth c cX4_takeWord 1 none RX4 G kd ad) {k0 : Nat} (hk0 : kReader kd k0) {MO : Mem} {vo : Unit}   : ∀  (M : Mem), mX4_takeWord_b39 k0 M = some (MO, vo) → At p l e (rmO 1 0 0) s m args below meth c 0 0 (MQ below (Qg G kd ad s.heap.size MO none) args s 0 0 (AS kd ad s.heap.size)) G kd ad 1 39 [(0, .ref (ad k0))] [] M := by
  intro M hf H locs ls hI hl
  obtain ⟨hx, hb, hml, hr, hown, hts, hlk, hK, hap, hsx⟩ := id C
  unfold mX4_takeWord_b39 at hf
  refine lv_aload_n hx hb (dc tbX4_takeWord_k 19 rfl) rfl (lv_at hl 0 rfl) ?_
  refine lv_aload_n hx hb (dc tbX4_takeWord_k 20 rfl) rfl (lv_at hl 0 rfl) ?_
  refine gg4_5 hx hb hts hown hK hI hk0.1 q_t1_50 (dc tbX4_takeWord_k 21 rfl) ?_
  refine lv_aload_n hx hb (dc tbX4_takeWord_k 22 rfl) rfl (lv_at hl 0 rfl) ?_
  refine gg4_4 hx hb hts hown hK hI hk0.1 q_t1_49 (dc tbX4_takeWord_k 23 rfl) ?_
  refine lv_isub hx hb (dc tbX4_takeWord_k 24 rfl) ?_
  refine lv_bipush (v := 6) hx hb (dc tbX4_takeWord_k 25 rfl) bp_6 ?_
  refine lv_icmp_gt (tgt := 58) hx hb (dc tbX4_takeWord_k 26 rfl) rfl (fun c2 => ?_) (fun c2 => ?_)
  · have hf := ite_t c2 hf
    refine lv_iconst (v := 1) hx hb (dc tbX4_takeWord_k 29 rfl) ic_1 ?_
    obtain ⟨M3, e4, hf⟩ := bnd_s hf
    refine gp4_6 hx hb hts hown hK hap hI hk0.1 q_t1_51 (dc tbX4_takeWord_k 30 rfl) e4 (fun H locs hI => ?_)
    cases hf
    exact g_vret hx hb hr hlk hI (dc tbX4_takeWord_k 31 rfl)
  · have hf := ite_f c2 hf
    refine lv_iconst (v := 2) hx hb (dc tbX4_takeWord_k 27 rfl) ic_2 ?_
    refine lv_goto (tgt := 59) hx hb (dc tbX4_takeWord_k 28 rfl) rfl ?_
    obtain ⟨M5, e6, hf⟩ := bnd_s hf
    refine gp4_6 hx hb hts hown hK hap hI hk0.1 q_t1_51 (dc tbX4_takeWord_k 30 rfl) e6 (fun H locs hI => ?_)
    cases hf
    exact g_vret hx hb hr hlk hI (dc tbX4_takeWord_k 31 rfl)
def mX4_takeWord_b0 (k0 : Nat) (ih0 : Mem → Option (Mem × Unit)) (M : Mem) : Option (Mem × Unit) := ite2 ((rd M k0 3) ≤ (rd M k0 5)) (mX4_takeWord_b39 k0 M) (chk (decide (rd M k0 2 = 1)) (chk (okb (rd M k0 5) 600) (cap (mX4_isLetter (rd M 1 ((rd M k0 5)).toNatClampNeg) M) (fun r10 => ite2 (r10 = 0) (mX4_takeWord_b39 k0 M) (bnd (wr M k0 5 ((rd M k0 5) + (1 : Int32))) (fun M13 => ih0 M13))))))
set_option maxHeartbeats 4000000 in
set_option maxRecDepth 100000 in
theorem tX4_takeWord_b0 {p : Program} {l : Launch} {e : Env} {s : State} {m : MethodId} {args : Array Value} {below : List Frame} {meth : Method} {c : Code} {G : GT} {kd : Nat → Nat × Nat} {ad : Nat → Nat} (C : Cx p s m args meth c cX4_takeWord 1 none RX4 G kd ad) {k0 : Nat} (hk0 : kReader kd k0) {MO : Mem} {vo : Unit} {ih0 : Mem → Option (Mem × Unit)} (hih0 : ∀  (M : Mem), ih0 M = some (MO, vo) → At p l e (rmO 1 0 0) s m args below meth c 0 0 (MQ below (Qg G kd ad s.heap.size MO none) args s 0 0 (AS kd ad s.heap.size)) G kd ad 1 0 [(0, .ref (ad k0))] [] M) : ∀  (M : Mem), mX4_takeWord_b0 k0 ih0 M = some (MO, vo) → At p l e (rmO 1 0 0) s m args below meth c 0 0 (MQ below (Qg G kd ad s.heap.size MO none) args s 0 0 (AS kd ad s.heap.size)) G kd ad 1 0 [(0, .ref (ad k0))] [] M := by
  intro M hf H locs ls hI hl
  obtain ⟨hx, hb, hml, hr, hown, hts, hlk, hK, hap, hsx⟩ := id C
  unfold mX4_takeWord_b0 at hf
  refine lv_aload_n hx hb (dc tbX4_takeWord_k 0 rfl) rfl (lv_at hl 0 rfl) ?_
  refine gg4_5 hx hb hts hown hK hI hk0.1 q_t1_50 (dc tbX4_takeWord_k 1 rfl) ?_
  refine lv_aload_n hx hb (dc tbX4_takeWord_k 2 rfl) rfl (lv_at hl 0 rfl) ?_
  refine gg4_3 hx hb hts hown hK hI hk0.1 q_t1_48 (dc tbX4_takeWord_k 3 rfl) ?_
  refine lv_icmp_ge (tgt := 39) hx hb (dc tbX4_takeWord_k 4 rfl) rfl (fun c1 => ?_) (fun c1 => ?_)
  · have hf := ite_t c1 hf
    exact tX4_takeWord_b39 C hk0 M hf _ _ _ hI (lv_sub hl [0] rfl)
  · have hf := ite_f c1 hf
    refine lv_aload_n hx hb (dc tbX4_takeWord_k 5 rfl) rfl (lv_at hl 0 rfl) ?_
    obtain ⟨h7, hf⟩ := chk_s hf
    refine gg4_2 hx hb hts hown hK hI hk0.1 q_t1_47 (dc tbX4_takeWord_k 6 rfl) ?_
    rw [byt_b h7]
    refine lv_aload_n hx hb (dc tbX4_takeWord_k 7 rfl) rfl (lv_at hl 0 rfl) ?_
    refine gg4_5 hx hb hts hown hK hI hk0.1 q_t1_50 (dc tbX4_takeWord_k 8 rfl) ?_
    obtain ⟨h8, hf⟩ := chk_s hf
    refine g_bald hx hb hK hI hk0.2.2 (okb_in h8) (dc tbX4_takeWord_k 9 rfl) ?_
    obtain ⟨r10, q9, hf⟩ := cap_s hf
    refine g_callSi hx hb hml hown hts hK hap hsx hI (tX4_isLetter l  q9 H.size) cs_X4_isLetter q_t5_121 rfl rfl ⟨Nat.le_of_ble_eq_true rfl, Nat.le_of_ble_eq_true rfl⟩ rfl hl.1 rfl (Nat.le_of_ble_eq_true rfl) (dc tbX4_takeWord_k 10 rfl) ⟨Nat.le_of_ble_eq_true rfl, Nat.le_of_ble_eq_true rfl⟩ (fun H locs hI => ?_)
    refine lv_if_eq (tgt := 39) hx hb (dc tbX4_takeWord_k 11 rfl) rfl (fun c12 => ?_) (fun c12 => ?_)
    · have hf := ite_t c12 hf
      exact tX4_takeWord_b39 C hk0 M hf _ _ _ hI (lv_sub hl [0] rfl)
    · have hf := ite_f c12 hf
      refine lv_aload_n hx hb (dc tbX4_takeWord_k 12 rfl) rfl (lv_at hl 0 rfl) ?_
      refine lv_dup hx hb (dc tbX4_takeWord_k 13 rfl) rfl ?_
      refine gg4_5 hx hb hts hown hK hI hk0.1 q_t1_50 (dc tbX4_takeWord_k 14 rfl) ?_
      refine lv_iconst (v := 1) hx hb (dc tbX4_takeWord_k 15 rfl) ic_1 ?_
      refine lv_iadd hx hb (dc tbX4_takeWord_k 16 rfl) ?_
      obtain ⟨M13, e14, hf⟩ := bnd_s hf
      refine gp4_5 hx hb hts hown hK hap hI hk0.1 q_t1_50 (dc tbX4_takeWord_k 17 rfl) e14 (fun H locs hI => ?_)
      refine lv_goto (tgt := 0) hx hb (dc tbX4_takeWord_k 18 rfl) rfl ?_
      exact hih0 M13 hf _ _ _ hI (lv_sub hl [0] rfl)
def mX4_takeWord_l0 (k0 : Nat) : Nat → Mem → Option (Mem × Unit)
  | 0 => fun  _ => none
  | n + 1 => mX4_takeWord_b0 k0 (mX4_takeWord_l0 k0 n)
theorem tX4_takeWord_l0 {p : Program} {l : Launch} {e : Env} {s : State} {m : MethodId} {args : Array Value} {below : List Frame} {meth : Method} {c : Code} {G : GT} {kd : Nat → Nat × Nat} {ad : Nat → Nat} (C : Cx p s m args meth c cX4_takeWord 1 none RX4 G kd ad) {k0 : Nat} (hk0 : kReader kd k0) {MO : Mem} {vo : Unit}   : ∀ (fuel : Nat)  (M : Mem), mX4_takeWord_l0 k0 fuel M = some (MO, vo) → At p l e (rmO 1 0 0) s m args below meth c 0 0 (MQ below (Qg G kd ad s.heap.size MO none) args s 0 0 (AS kd ad s.heap.size)) G kd ad 1 0 [(0, .ref (ad k0))] [] M := by
  intro fuel
  induction fuel with
  | zero => intro M hf; cases hf
  | succ n IH => exact tX4_takeWord_b0 C hk0 IH
def mX4_takeWord (k0 : Nat) (M : Mem) : Option (Mem × Unit) := mX4_takeWord_l0 k0 5000 M
set_option maxHeartbeats 4000000 in
set_option maxRecDepth 100000 in
theorem tX4_takeWord (l : Launch) {G : GT} {kd : Nat → Nat × Nat} {ad : Nat → Nat} {k0 : Nat} (hk0 : kReader kd k0) {M : Mem} {MO : Mem} {vo : Unit} (hf : mX4_takeWord k0 M = some (MO, vo)) (n : Nat) : Met l yX4_takeWord (Cond.code yX4_takeWord cX4_takeWord 1 none :: WA) (rmO 1 0 0) (Pg G kd ad n [.ref (ad k0)] M) (Qg G kd ad n MO none) 0 0 (AS kd ad n) := by
  refine g_body (own := RX4) (by decide) rfl ?_ (Nat.le_of_ble_eq_true rfl)
  intro p e s m args below meth c C _ H locs ls hI hl
  obtain ⟨hx, hb, hml, hr, hown, hts, hlk, hK, hap, hsx⟩ := id C
  have hl : lv_has ls 1 [(0, .ref (ad k0))] := hl
  unfold mX4_takeWord at hf
  exact tX4_takeWord_l0 C hk0 5000 M hf _ _ _ hI (lv_sub hl [0] rfl)
theorem cv_X4_takeWord : cvF RX4 yX4_takeWord cX4_takeWord 1 none 0 := ⟨q_t5_126, q_s2_4, q_t1_2, q_t5_127, by decide +kernel⟩
def mX4_isDigit (x0 : Int32) (M : Mem) : Option Int32 := ite2 (x0 < (48 : Int32)) (some (0 : Int32)) (ite2 ((57 : Int32) < x0) (some (0 : Int32)) (some (1 : Int32)))
set_option maxHeartbeats 4000000 in
set_option maxRecDepth 100000 in
theorem tX4_isDigit (l : Launch) {G : GT} {kd : Nat → Nat × Nat} {ad : Nat → Nat}  {x0 : Int32} {M : Mem} {vo : Int32} (hf : mX4_isDigit  x0 M = some vo) (n : Nat) : Met l yX4_isDigit (Cond.code yX4_isDigit cX4_isDigit 1 (some .boolean) :: WA) (rmO 0 0 0) (Pg G kd ad n [.int x0] M) (Qg G kd ad n M (some (.int vo))) 0 0 (AS kd ad n) := by
  refine g_body (own := RX4) (by decide) rfl ?_ (Nat.le_of_ble_eq_true rfl)
  intro p e s m args below meth c C _ H locs ls hI hl
  obtain ⟨hx, hb, hml, hr, hown, hts, hlk, hK, hap, hsx⟩ := id C
  have hl : lv_has ls 1 [(0, .int x0)] := hl
  unfold mX4_isDigit at hf
  refine lv_iload_n hx hb (dc tbX4_isDigit_k 0 rfl) rfl (lv_at hl 0 rfl) ?_
  refine lv_bipush (v := 48) hx hb (dc tbX4_isDigit_k 1 rfl) bp_48 ?_
  refine lv_icmp_lt (tgt := 16) hx hb (dc tbX4_isDigit_k 2 rfl) rfl (fun c1 => ?_) (fun c1 => ?_)
  · have hf := ite_t c1 hf
    refine lv_iconst (v := 0) hx hb (dc tbX4_isDigit_k 8 rfl) ic_0 ?_
    cases hf
    exact g_zret hx hb hr hlk hI rfl (dc tbX4_isDigit_k 9 rfl)
  · have hf := ite_f c1 hf
    refine lv_iload_n hx hb (dc tbX4_isDigit_k 3 rfl) rfl (lv_at hl 0 rfl) ?_
    refine lv_bipush (v := 57) hx hb (dc tbX4_isDigit_k 4 rfl) bp_57 ?_
    refine lv_icmp_gt (tgt := 16) hx hb (dc tbX4_isDigit_k 5 rfl) rfl (fun c2 => ?_) (fun c2 => ?_)
    · have hf := ite_t c2 hf
      refine lv_iconst (v := 0) hx hb (dc tbX4_isDigit_k 8 rfl) ic_0 ?_
      cases hf
      exact g_zret hx hb hr hlk hI rfl (dc tbX4_isDigit_k 9 rfl)
    · have hf := ite_f c2 hf
      refine lv_iconst (v := 1) hx hb (dc tbX4_isDigit_k 6 rfl) ic_1 ?_
      refine lv_goto (tgt := 17) hx hb (dc tbX4_isDigit_k 7 rfl) rfl ?_
      cases hf
      exact g_zret hx hb hr hlk hI rfl (dc tbX4_isDigit_k 9 rfl)
theorem cs_X4_isDigit : csF yX4_isDigit cX4_isDigit 1 (some .boolean) 1 := ⟨q_t5_129, q_t1_2, q_t5_130, by decide +kernel⟩
def mX4_takeNumber_b76 (k0 : Nat) (M : Mem) : Option (Mem × Unit) := ite2 ((4 : Int32) < ((rd M k0 5) - (rd M k0 4))) (bnd (wr M k0 6 (1 : Int32)) (fun M3 => some (M3, ()))) (bnd (wr M k0 6 (3 : Int32)) (fun M5 => some (M5, ())))
set_option maxHeartbeats 4000000 in
set_option maxRecDepth 100000 in
theorem tX4_takeNumber_b76 {p : Program} {l : Launch} {e : Env} {s : State} {m : MethodId} {args : Array Value} {below : List Frame} {meth : Method} {c : Code} {G : GT} {kd : Nat → Nat × Nat} {ad : Nat → Nat} (C : Cx p s m args meth c cX4_takeNumber 1 none RX4 G kd ad) {k0 : Nat} (hk0 : kReader kd k0) {MO : Mem} {vo : Unit}   : ∀  (M : Mem), mX4_takeNumber_b76 k0 M = some (MO, vo) → At p l e (rmO 1 0 0) s m args below meth c 0 0 (MQ below (Qg G kd ad s.heap.size MO none) args s 0 0 (AS kd ad s.heap.size)) G kd ad 1 76 [(0, .ref (ad k0))] [] M := by
  intro M hf H locs ls hI hl
  obtain ⟨hx, hb, hml, hr, hown, hts, hlk, hK, hap, hsx⟩ := id C
  unfold mX4_takeNumber_b76 at hf
  refine lv_aload_n hx hb (dc tbX4_takeNumber_1_k 0 rfl) rfl (lv_at hl 0 rfl) ?_
  refine lv_aload_n hx hb (dc tbX4_takeNumber_1_k 1 rfl) rfl (lv_at hl 0 rfl) ?_
  refine gg4_5 hx hb hts hown hK hI hk0.1 q_t1_50 (dc tbX4_takeNumber_1_k 2 rfl) ?_
  refine lv_aload_n hx hb (dc tbX4_takeNumber_1_k 3 rfl) rfl (lv_at hl 0 rfl) ?_
  refine gg4_4 hx hb hts hown hK hI hk0.1 q_t1_49 (dc tbX4_takeNumber_1_k 4 rfl) ?_
  refine lv_isub hx hb (dc tbX4_takeNumber_1_k 5 rfl) ?_
  refine lv_iconst (v := 4) hx hb (dc tbX4_takeNumber_1_k 6 rfl) ic_4 ?_
  refine lv_icmp_gt (tgt := 94) hx hb (dc tbX4_takeNumber_1_k 7 rfl) rfl (fun c2 => ?_) (fun c2 => ?_)
  · have hf := ite_t c2 hf
    refine lv_iconst (v := 1) hx hb (dc tbX4_takeNumber_1_k 10 rfl) ic_1 ?_
    obtain ⟨M3, e4, hf⟩ := bnd_s hf
    refine gp4_6 hx hb hts hown hK hap hI hk0.1 q_t1_51 (dc tbX4_takeNumber_1_k 11 rfl) e4 (fun H locs hI => ?_)
    cases hf
    exact g_vret hx hb hr hlk hI (dc tbX4_takeNumber_1_k 12 rfl)
  · have hf := ite_f c2 hf
    refine lv_iconst (v := 3) hx hb (dc tbX4_takeNumber_1_k 8 rfl) ic_3 ?_
    refine lv_goto (tgt := 95) hx hb (dc tbX4_takeNumber_1_k 9 rfl) rfl ?_
    obtain ⟨M5, e6, hf⟩ := bnd_s hf
    refine gp4_6 hx hb hts hown hK hap hI hk0.1 q_t1_51 (dc tbX4_takeNumber_1_k 11 rfl) e6 (fun H locs hI => ?_)
    cases hf
    exact g_vret hx hb hr hlk hI (dc tbX4_takeNumber_1_k 12 rfl)
def mX4_takeNumber_b63 (k0 : Nat) (ih0 : Mem → Option (Mem × Unit)) (M : Mem) : Option (Mem × Unit) := bnd (wr M k0 5 ((rd M k0 5) + (1 : Int32))) (fun M14 => ih0 M14)
set_option maxHeartbeats 4000000 in
set_option maxRecDepth 100000 in
theorem tX4_takeNumber_b63 {p : Program} {l : Launch} {e : Env} {s : State} {m : MethodId} {args : Array Value} {below : List Frame} {meth : Method} {c : Code} {G : GT} {kd : Nat → Nat × Nat} {ad : Nat → Nat} (C : Cx p s m args meth c cX4_takeNumber 1 none RX4 G kd ad) {k0 : Nat} (hk0 : kReader kd k0) {MO : Mem} {vo : Unit} {ih0 : Mem → Option (Mem × Unit)} (hih0 : ∀  (M : Mem), ih0 M = some (MO, vo) → At p l e (rmO 1 0 0) s m args below meth c 0 0 (MQ below (Qg G kd ad s.heap.size MO none) args s 0 0 (AS kd ad s.heap.size)) G kd ad 1 0 [(0, .ref (ad k0))] [] M) : ∀  (M : Mem), mX4_takeNumber_b63 k0 ih0 M = some (MO, vo) → At p l e (rmO 1 0 0) s m args below meth c 0 0 (MQ below (Qg G kd ad s.heap.size MO none) args s 0 0 (AS kd ad s.heap.size)) G kd ad 1 63 [(0, .ref (ad k0))] [] M := by
  intro M hf H locs ls hI hl
  obtain ⟨hx, hb, hml, hr, hown, hts, hlk, hK, hap, hsx⟩ := id C
  unfold mX4_takeNumber_b63 at hf
  refine lv_aload_n hx hb (dc tbX4_takeNumber_0_k 33 rfl) rfl (lv_at hl 0 rfl) ?_
  refine lv_dup hx hb (dc tbX4_takeNumber_0_k 34 rfl) rfl ?_
  refine gg4_5 hx hb hts hown hK hI hk0.1 q_t1_50 (dc tbX4_takeNumber_0_k 35 rfl) ?_
  refine lv_iconst (v := 1) hx hb (dc tbX4_takeNumber_0_k 36 rfl) ic_1 ?_
  refine lv_iadd hx hb (dc tbX4_takeNumber_0_k 37 rfl) ?_
  obtain ⟨M14, e15, hf⟩ := bnd_s hf
  refine gp4_5 hx hb hts hown hK hap hI hk0.1 q_t1_50 (dc tbX4_takeNumber_0_k 38 rfl) e15 (fun H locs hI => ?_)
  refine lv_goto (tgt := 0) hx hb (dc tbX4_takeNumber_0_k 39 rfl) rfl ?_
  exact hih0 M14 hf _ _ _ hI (lv_sub hl [0] rfl)
def mX4_takeNumber_b0 (k0 : Nat) (ih0 : Mem → Option (Mem × Unit)) (M : Mem) : Option (Mem × Unit) := ite2 ((rd M k0 3) ≤ (rd M k0 5)) (mX4_takeNumber_b76 k0 M) (chk (decide (rd M k0 2 = 1)) (chk (okb (rd M k0 5) 600) (cap (mX4_isDigit (rd M 1 ((rd M k0 5)).toNatClampNeg) M) (fun r10 => ite2 (r10 = 0) (mX4_takeNumber_b76 k0 M) (ite2 ((4 : Int32) ≤ ((rd M k0 5) - (rd M k0 4))) (mX4_takeNumber_b63 k0 ih0 M) (chk (decide (rd M k0 2 = 1)) (chk (okb (rd M k0 5) 600) (bnd (wr M k0 7 (((10 : Int32) * (rd M k0 7)) + ((rd M 1 ((rd M k0 5)).toNatClampNeg) - (48 : Int32)))) (fun M18 => mX4_takeNumber_b63 k0 ih0 M18)))))))))
set_option maxHeartbeats 4000000 in
set_option maxRecDepth 100000 in
theorem tX4_takeNumber_b0 {p : Program} {l : Launch} {e : Env} {s : State} {m : MethodId} {args : Array Value} {below : List Frame} {meth : Method} {c : Code} {G : GT} {kd : Nat → Nat × Nat} {ad : Nat → Nat} (C : Cx p s m args meth c cX4_takeNumber 1 none RX4 G kd ad) {k0 : Nat} (hk0 : kReader kd k0) {MO : Mem} {vo : Unit} {ih0 : Mem → Option (Mem × Unit)} (hih0 : ∀  (M : Mem), ih0 M = some (MO, vo) → At p l e (rmO 1 0 0) s m args below meth c 0 0 (MQ below (Qg G kd ad s.heap.size MO none) args s 0 0 (AS kd ad s.heap.size)) G kd ad 1 0 [(0, .ref (ad k0))] [] M) : ∀  (M : Mem), mX4_takeNumber_b0 k0 ih0 M = some (MO, vo) → At p l e (rmO 1 0 0) s m args below meth c 0 0 (MQ below (Qg G kd ad s.heap.size MO none) args s 0 0 (AS kd ad s.heap.size)) G kd ad 1 0 [(0, .ref (ad k0))] [] M := by
  intro M hf H locs ls hI hl
  obtain ⟨hx, hb, hml, hr, hown, hts, hlk, hK, hap, hsx⟩ := id C
  unfold mX4_takeNumber_b0 at hf
  refine lv_aload_n hx hb (dc tbX4_takeNumber_0_k 0 rfl) rfl (lv_at hl 0 rfl) ?_
  refine gg4_5 hx hb hts hown hK hI hk0.1 q_t1_50 (dc tbX4_takeNumber_0_k 1 rfl) ?_
  refine lv_aload_n hx hb (dc tbX4_takeNumber_0_k 2 rfl) rfl (lv_at hl 0 rfl) ?_
  refine gg4_3 hx hb hts hown hK hI hk0.1 q_t1_48 (dc tbX4_takeNumber_0_k 3 rfl) ?_
  refine lv_icmp_ge (tgt := 76) hx hb (dc tbX4_takeNumber_0_k 4 rfl) rfl (fun c1 => ?_) (fun c1 => ?_)
  · have hf := ite_t c1 hf
    exact tX4_takeNumber_b76 C hk0 M hf _ _ _ hI (lv_sub hl [0] rfl)
  · have hf := ite_f c1 hf
    refine lv_aload_n hx hb (dc tbX4_takeNumber_0_k 5 rfl) rfl (lv_at hl 0 rfl) ?_
    obtain ⟨h7, hf⟩ := chk_s hf
    refine gg4_2 hx hb hts hown hK hI hk0.1 q_t1_47 (dc tbX4_takeNumber_0_k 6 rfl) ?_
    rw [byt_b h7]
    refine lv_aload_n hx hb (dc tbX4_takeNumber_0_k 7 rfl) rfl (lv_at hl 0 rfl) ?_
    refine gg4_5 hx hb hts hown hK hI hk0.1 q_t1_50 (dc tbX4_takeNumber_0_k 8 rfl) ?_
    obtain ⟨h8, hf⟩ := chk_s hf
    refine g_bald hx hb hK hI hk0.2.2 (okb_in h8) (dc tbX4_takeNumber_0_k 9 rfl) ?_
    obtain ⟨r10, q9, hf⟩ := cap_s hf
    refine g_callSi hx hb hml hown hts hK hap hsx hI (tX4_isDigit l  q9 H.size) cs_X4_isDigit q_t5_128 rfl rfl ⟨Nat.le_of_ble_eq_true rfl, Nat.le_of_ble_eq_true rfl⟩ rfl hl.1 rfl (Nat.le_of_ble_eq_true rfl) (dc tbX4_takeNumber_0_k 10 rfl) ⟨Nat.le_of_ble_eq_true rfl, Nat.le_of_ble_eq_true rfl⟩ (fun H locs hI => ?_)
    refine lv_if_eq (tgt := 76) hx hb (dc tbX4_takeNumber_0_k 11 rfl) rfl (fun c12 => ?_) (fun c12 => ?_)
    · have hf := ite_t c12 hf
      exact tX4_takeNumber_b76 C hk0 M hf _ _ _ hI (lv_sub hl [0] rfl)
    · have hf := ite_f c12 hf
      refine lv_aload_n hx hb (dc tbX4_takeNumber_0_k 12 rfl) rfl (lv_at hl 0 rfl) ?_
      refine gg4_5 hx hb hts hown hK hI hk0.1 q_t1_50 (dc tbX4_takeNumber_0_k 13 rfl) ?_
      refine lv_aload_n hx hb (dc tbX4_takeNumber_0_k 14 rfl) rfl (lv_at hl 0 rfl) ?_
      refine gg4_4 hx hb hts hown hK hI hk0.1 q_t1_49 (dc tbX4_takeNumber_0_k 15 rfl) ?_
      refine lv_isub hx hb (dc tbX4_takeNumber_0_k 16 rfl) ?_
      refine lv_iconst (v := 4) hx hb (dc tbX4_takeNumber_0_k 17 rfl) ic_4 ?_
      refine lv_icmp_ge (tgt := 63) hx hb (dc tbX4_takeNumber_0_k 18 rfl) rfl (fun c13 => ?_) (fun c13 => ?_)
      · have hf := ite_t c13 hf
        exact tX4_takeNumber_b63 C hk0 hih0 M hf _ _ _ hI (lv_sub hl [0] rfl)
      · have hf := ite_f c13 hf
        refine lv_aload_n hx hb (dc tbX4_takeNumber_0_k 19 rfl) rfl (lv_at hl 0 rfl) ?_
        refine lv_bipush (v := 10) hx hb (dc tbX4_takeNumber_0_k 20 rfl) bp_10 ?_
        refine lv_aload_n hx hb (dc tbX4_takeNumber_0_k 21 rfl) rfl (lv_at hl 0 rfl) ?_
        refine gg4_7 hx hb hts hown hK hI hk0.1 q_t1_52 (dc tbX4_takeNumber_0_k 22 rfl) ?_
        refine lv_imul hx hb (dc tbX4_takeNumber_0_k 23 rfl) ?_
        refine lv_aload_n hx hb (dc tbX4_takeNumber_0_k 24 rfl) rfl (lv_at hl 0 rfl) ?_
        obtain ⟨h16, hf⟩ := chk_s hf
        refine gg4_2 hx hb hts hown hK hI hk0.1 q_t1_47 (dc tbX4_takeNumber_0_k 25 rfl) ?_
        rw [byt_b h16]
        refine lv_aload_n hx hb (dc tbX4_takeNumber_0_k 26 rfl) rfl (lv_at hl 0 rfl) ?_
        refine gg4_5 hx hb hts hown hK hI hk0.1 q_t1_50 (dc tbX4_takeNumber_0_k 27 rfl) ?_
        obtain ⟨h17, hf⟩ := chk_s hf
        refine g_bald hx hb hK hI hk0.2.2 (okb_in h17) (dc tbX4_takeNumber_0_k 28 rfl) ?_
        refine lv_bipush (v := 48) hx hb (dc tbX4_takeNumber_0_k 29 rfl) bp_48 ?_
        refine lv_isub hx hb (dc tbX4_takeNumber_0_k 30 rfl) ?_
        refine lv_iadd hx hb (dc tbX4_takeNumber_0_k 31 rfl) ?_
        obtain ⟨M18, e19, hf⟩ := bnd_s hf
        refine gp4_7 hx hb hts hown hK hap hI hk0.1 q_t1_52 (dc tbX4_takeNumber_0_k 32 rfl) e19 (fun H locs hI => ?_)
        exact tX4_takeNumber_b63 C hk0 hih0 M18 hf _ _ _ hI (lv_sub hl [0] rfl)
def mX4_takeNumber_l0 (k0 : Nat) : Nat → Mem → Option (Mem × Unit)
  | 0 => fun  _ => none
  | n + 1 => mX4_takeNumber_b0 k0 (mX4_takeNumber_l0 k0 n)
theorem tX4_takeNumber_l0 {p : Program} {l : Launch} {e : Env} {s : State} {m : MethodId} {args : Array Value} {below : List Frame} {meth : Method} {c : Code} {G : GT} {kd : Nat → Nat × Nat} {ad : Nat → Nat} (C : Cx p s m args meth c cX4_takeNumber 1 none RX4 G kd ad) {k0 : Nat} (hk0 : kReader kd k0) {MO : Mem} {vo : Unit}   : ∀ (fuel : Nat)  (M : Mem), mX4_takeNumber_l0 k0 fuel M = some (MO, vo) → At p l e (rmO 1 0 0) s m args below meth c 0 0 (MQ below (Qg G kd ad s.heap.size MO none) args s 0 0 (AS kd ad s.heap.size)) G kd ad 1 0 [(0, .ref (ad k0))] [] M := by
  intro fuel
  induction fuel with
  | zero => intro M hf; cases hf
  | succ n IH => exact tX4_takeNumber_b0 C hk0 IH
def mX4_takeNumber (k0 : Nat) (M : Mem) : Option (Mem × Unit) := mX4_takeNumber_l0 k0 5000 M
set_option maxHeartbeats 4000000 in
set_option maxRecDepth 100000 in
theorem tX4_takeNumber (l : Launch) {G : GT} {kd : Nat → Nat × Nat} {ad : Nat → Nat} {k0 : Nat} (hk0 : kReader kd k0) {M : Mem} {MO : Mem} {vo : Unit} (hf : mX4_takeNumber k0 M = some (MO, vo)) (n : Nat) : Met l yX4_takeNumber (Cond.code yX4_takeNumber cX4_takeNumber 1 none :: WA) (rmO 1 0 0) (Pg G kd ad n [.ref (ad k0)] M) (Qg G kd ad n MO none) 0 0 (AS kd ad n) := by
  refine g_body (own := RX4) (by decide) rfl ?_ (Nat.le_of_ble_eq_true rfl)
  intro p e s m args below meth c C _ H locs ls hI hl
  obtain ⟨hx, hb, hml, hr, hown, hts, hlk, hK, hap, hsx⟩ := id C
  have hl : lv_has ls 1 [(0, .ref (ad k0))] := hl
  unfold mX4_takeNumber at hf
  exact tX4_takeNumber_l0 C hk0 5000 M hf _ _ _ hI (lv_sub hl [0] rfl)
theorem cv_X4_takeNumber : cvF RX4 yX4_takeNumber cX4_takeNumber 1 none 0 := ⟨q_t5_133, q_s2_5, q_t1_2, q_t5_134, by decide +kernel⟩
def mX4_nextToken_b143 (k0 : Nat) (y1 : Int32) (M : Mem) : Option (Mem × Unit) := bnd (wr M k0 6 y1) (fun M24 => bnd (wr M24 k0 5 ((rd M24 k0 5) + (1 : Int32))) (fun M26 => some (M26, ())))
set_option maxHeartbeats 4000000 in
set_option maxRecDepth 100000 in
theorem tX4_nextToken_b143 {p : Program} {l : Launch} {e : Env} {s : State} {m : MethodId} {args : Array Value} {below : List Frame} {meth : Method} {c : Code} {G : GT} {kd : Nat → Nat × Nat} {ad : Nat → Nat} (C : Cx p s m args meth c cX4_nextToken 1 none RX4 G kd ad) {k0 : Nat} (hk0 : kReader kd k0) {MO : Mem} {vo : Unit}   : ∀ (y1 : Int32) (M : Mem), mX4_nextToken_b143 k0 y1 M = some (MO, vo) → At p l e (rmO 2 0 0) s m args below meth c 0 0 (MQ below (Qg G kd ad s.heap.size MO none) args s 0 0 (AS kd ad s.heap.size)) G kd ad 1 143 [(0, .ref (ad k0))] [.int y1, .ref (ad k0)] M := by
  intro y1 M hf H locs ls hI hl
  obtain ⟨hx, hb, hml, hr, hown, hts, hlk, hK, hap, hsx⟩ := id C
  unfold mX4_nextToken_b143 at hf
  obtain ⟨M24, e25, hf⟩ := bnd_s hf
  refine gp4_6 hx hb hts hown hK hap hI hk0.1 q_t1_51 (dc tbX4_nextToken_1_k 30 rfl) e25 (fun H locs hI => ?_)
  refine lv_aload_n hx hb (dc tbX4_nextToken_1_k 31 rfl) rfl (lv_at hl 0 rfl) ?_
  refine lv_dup hx hb (dc tbX4_nextToken_1_k 32 rfl) rfl ?_
  refine gg4_5 hx hb hts hown hK hI hk0.1 q_t1_50 (dc tbX4_nextToken_1_k 33 rfl) ?_
  refine lv_iconst (v := 1) hx hb (dc tbX4_nextToken_1_k 34 rfl) ic_1 ?_
  refine lv_iadd hx hb (dc tbX4_nextToken_1_k 35 rfl) ?_
  obtain ⟨M26, e27, hf⟩ := bnd_s hf
  refine gp4_5 hx hb hts hown hK hap hI hk0.1 q_t1_50 (dc tbX4_nextToken_1_k 36 rfl) e27 (fun H locs hI => ?_)
  cases hf
  exact g_vret hx hb hr hlk hI (dc tbX4_nextToken_1_k 37 rfl)
def mX4_nextToken_b47 (k0 : Nat) (M : Mem) : Option (Mem × Unit) := bnd (wr M k0 5 (rd M k0 4)) (fun M4 => bnd (wr M4 k0 7 (0 : Int32)) (fun M6 => ite2 ((rd M6 k0 4) < (rd M6 k0 3)) (chk (decide (rd M6 k0 2 = 1)) (chk (okb (rd M6 k0 4) 600) (cap (mX4_isLetter (rd M6 1 ((rd M6 k0 4)).toNatClampNeg) M6) (fun r12 => ite2 (r12 = 0) (chk (decide (rd M6 k0 2 = 1)) (chk (okb (rd M6 k0 4) 600) (cap (mX4_isDigit (rd M6 1 ((rd M6 k0 4)).toNatClampNeg) M6) (fun r18 => ite2 (r18 = 0) (chk (decide (rd M6 k0 2 = 1)) (chk (okb (rd M6 k0 4) 600) (ite2 ((rd M6 1 ((rd M6 k0 4)).toNatClampNeg) = (59 : Int32)) (mX4_nextToken_b143 k0 (4 : Int32) M6) (mX4_nextToken_b143 k0 (1 : Int32) M6)))) (cal (mX4_takeNumber k0 M6) (fun M30 _ => some (M30, ()))))))) (cal (mX4_takeWord k0 M6) (fun M33 _ => some (M33, ()))))))) (bnd (wr M6 k0 6 (0 : Int32)) (fun M34 => some (M34, ())))))
set_option maxHeartbeats 4000000 in
set_option maxRecDepth 100000 in
theorem tX4_nextToken_b47 {p : Program} {l : Launch} {e : Env} {s : State} {m : MethodId} {args : Array Value} {below : List Frame} {meth : Method} {c : Code} {G : GT} {kd : Nat → Nat × Nat} {ad : Nat → Nat} (C : Cx p s m args meth c cX4_nextToken 1 none RX4 G kd ad) {k0 : Nat} (hk0 : kReader kd k0) {MO : Mem} {vo : Unit}   : ∀  (M : Mem), mX4_nextToken_b47 k0 M = some (MO, vo) → At p l e (rmO 2 0 0) s m args below meth c 0 0 (MQ below (Qg G kd ad s.heap.size MO none) args s 0 0 (AS kd ad s.heap.size)) G kd ad 1 47 [(0, .ref (ad k0))] [] M := by
  intro M hf H locs ls hI hl
  obtain ⟨hx, hb, hml, hr, hown, hts, hlk, hK, hap, hsx⟩ := id C
  unfold mX4_nextToken_b47 at hf
  refine lv_aload_n hx hb (dc tbX4_nextToken_0_k 23 rfl) rfl (lv_at hl 0 rfl) ?_
  refine lv_aload_n hx hb (dc tbX4_nextToken_0_k 24 rfl) rfl (lv_at hl 0 rfl) ?_
  refine gg4_4 hx hb hts hown hK hI hk0.1 q_t1_49 (dc tbX4_nextToken_0_k 25 rfl) ?_
  obtain ⟨M4, e5, hf⟩ := bnd_s hf
  refine gp4_5 hx hb hts hown hK hap hI hk0.1 q_t1_50 (dc tbX4_nextToken_0_k 26 rfl) e5 (fun H locs hI => ?_)
  refine lv_aload_n hx hb (dc tbX4_nextToken_0_k 27 rfl) rfl (lv_at hl 0 rfl) ?_
  refine lv_iconst (v := 0) hx hb (dc tbX4_nextToken_0_k 28 rfl) ic_0 ?_
  obtain ⟨M6, e7, hf⟩ := bnd_s hf
  refine gp4_7 hx hb hts hown hK hap hI hk0.1 q_t1_52 (dc tbX4_nextToken_0_k 29 rfl) e7 (fun H locs hI => ?_)
  refine lv_aload_n hx hb (dc tbX4_nextToken_0_k 30 rfl) rfl (lv_at hl 0 rfl) ?_
  refine gg4_4 hx hb hts hown hK hI hk0.1 q_t1_49 (dc tbX4_nextToken_0_k 31 rfl) ?_
  refine lv_aload_n hx hb (dc tbX4_nextToken_0_k 32 rfl) rfl (lv_at hl 0 rfl) ?_
  refine gg4_3 hx hb hts hown hK hI hk0.1 q_t1_48 (dc tbX4_nextToken_0_k 33 rfl) ?_
  refine lv_icmp_lt (tgt := 79) hx hb (dc tbX4_nextToken_0_k 34 rfl) rfl (fun c8 => ?_) (fun c8 => ?_)
  · have hf := ite_t c8 hf
    refine lv_aload_n hx hb (dc tbX4_nextToken_0_k 39 rfl) rfl (lv_at hl 0 rfl) ?_
    obtain ⟨h9, hf⟩ := chk_s hf
    refine gg4_2 hx hb hts hown hK hI hk0.1 q_t1_47 (dc tbX4_nextToken_1_k 0 rfl) ?_
    rw [byt_b h9]
    refine lv_aload_n hx hb (dc tbX4_nextToken_1_k 1 rfl) rfl (lv_at hl 0 rfl) ?_
    refine gg4_4 hx hb hts hown hK hI hk0.1 q_t1_49 (dc tbX4_nextToken_1_k 2 rfl) ?_
    obtain ⟨h10, hf⟩ := chk_s hf
    refine g_bald hx hb hK hI hk0.2.2 (okb_in h10) (dc tbX4_nextToken_1_k 3 rfl) ?_
    obtain ⟨r12, q11, hf⟩ := cap_s hf
    refine g_callSi hx hb hml hown hts hK hap hsx hI (tX4_isLetter l  q11 H.size) cs_X4_isLetter q_t5_121 rfl rfl ⟨Nat.le_of_ble_eq_true rfl, Nat.le_of_ble_eq_true rfl⟩ rfl hl.1 rfl (Nat.le_of_ble_eq_true rfl) (dc tbX4_nextToken_1_k 4 rfl) ⟨Nat.le_of_ble_eq_true rfl, Nat.le_of_ble_eq_true rfl⟩ (fun H locs hI => ?_)
    refine lv_if_eq (tgt := 101) hx hb (dc tbX4_nextToken_1_k 5 rfl) rfl (fun c14 => ?_) (fun c14 => ?_)
    · have hf := ite_t c14 hf
      refine lv_aload_n hx hb (dc tbX4_nextToken_1_k 9 rfl) rfl (lv_at hl 0 rfl) ?_
      obtain ⟨h15, hf⟩ := chk_s hf
      refine gg4_2 hx hb hts hown hK hI hk0.1 q_t1_47 (dc tbX4_nextToken_1_k 10 rfl) ?_
      rw [byt_b h15]
      refine lv_aload_n hx hb (dc tbX4_nextToken_1_k 11 rfl) rfl (lv_at hl 0 rfl) ?_
      refine gg4_4 hx hb hts hown hK hI hk0.1 q_t1_49 (dc tbX4_nextToken_1_k 12 rfl) ?_
      obtain ⟨h16, hf⟩ := chk_s hf
      refine g_bald hx hb hK hI hk0.2.2 (okb_in h16) (dc tbX4_nextToken_1_k 13 rfl) ?_
      obtain ⟨r18, q17, hf⟩ := cap_s hf
      refine g_callSi hx hb hml hown hts hK hap hsx hI (tX4_isDigit l  q17 H.size) cs_X4_isDigit q_t5_128 rfl rfl ⟨Nat.le_of_ble_eq_true rfl, Nat.le_of_ble_eq_true rfl⟩ rfl hl.1 rfl (Nat.le_of_ble_eq_true rfl) (dc tbX4_nextToken_1_k 14 rfl) ⟨Nat.le_of_ble_eq_true rfl, Nat.le_of_ble_eq_true rfl⟩ (fun H locs hI => ?_)
      refine lv_if_eq (tgt := 123) hx hb (dc tbX4_nextToken_1_k 15 rfl) rfl (fun c20 => ?_) (fun c20 => ?_)
      · have hf := ite_t c20 hf
        refine lv_aload_n hx hb (dc tbX4_nextToken_1_k 19 rfl) rfl (lv_at hl 0 rfl) ?_
        refine lv_aload_n hx hb (dc tbX4_nextToken_1_k 20 rfl) rfl (lv_at hl 0 rfl) ?_
        obtain ⟨h21, hf⟩ := chk_s hf
        refine gg4_2 hx hb hts hown hK hI hk0.1 q_t1_47 (dc tbX4_nextToken_1_k 21 rfl) ?_
        rw [byt_b h21]
        refine lv_aload_n hx hb (dc tbX4_nextToken_1_k 22 rfl) rfl (lv_at hl 0 rfl) ?_
        refine gg4_4 hx hb hts hown hK hI hk0.1 q_t1_49 (dc tbX4_nextToken_1_k 23 rfl) ?_
        obtain ⟨h22, hf⟩ := chk_s hf
        refine g_bald hx hb hK hI hk0.2.2 (okb_in h22) (dc tbX4_nextToken_1_k 24 rfl) ?_
        refine lv_bipush (v := 59) hx hb (dc tbX4_nextToken_1_k 25 rfl) bp_59 ?_
        refine lv_icmp_ne (tgt := 142) hx hb (dc tbX4_nextToken_1_k 26 rfl) rfl (fun c23 => ?_) (fun c23 => ?_)
        · have hf := ite_f c23 hf
          refine lv_iconst (v := 1) hx hb (dc tbX4_nextToken_1_k 29 rfl) ic_1 ?_
          exact tX4_nextToken_b143 C hk0 (1 : Int32) M6 hf _ _ _ hI (lv_sub hl [0] rfl)
        · have hf := ite_t c23 hf
          refine lv_iconst (v := 4) hx hb (dc tbX4_nextToken_1_k 27 rfl) ic_4 ?_
          refine lv_goto (tgt := 143) hx hb (dc tbX4_nextToken_1_k 28 rfl) rfl ?_
          exact tX4_nextToken_b143 C hk0 (4 : Int32) M6 hf _ _ _ hI (lv_sub hl [0] rfl)
      · have hf := ite_f c20 hf
        refine lv_aload_n hx hb (dc tbX4_nextToken_1_k 16 rfl) rfl (lv_at hl 0 rfl) ?_
        obtain ⟨M30, r29, q28, hf⟩ := cal_s hf
        refine g_callVv hx hb hml hown hts hK hap hsx hI (tX4_takeNumber l hk0 q28 H.size) cv_X4_takeNumber q_t5_131 rfl rfl ⟨Nat.le_of_ble_eq_true rfl, Nat.le_of_ble_eq_true rfl⟩ hk0.1 (by simp) rfl rfl rfl hl.1 rfl (Nat.le_of_ble_eq_true rfl) (dc tbX4_nextToken_1_k 17 rfl) ⟨Nat.le_of_ble_eq_true rfl, Nat.le_of_ble_eq_true rfl⟩ (fun H locs hI => ?_)
        refine lv_goto (tgt := 156) hx hb (dc tbX4_nextToken_1_k 18 rfl) rfl ?_
        cases hf
        exact g_vret hx hb hr hlk hI (dc tbX4_nextToken_1_k 37 rfl)
    · have hf := ite_f c14 hf
      refine lv_aload_n hx hb (dc tbX4_nextToken_1_k 6 rfl) rfl (lv_at hl 0 rfl) ?_
      obtain ⟨M33, r32, q31, hf⟩ := cal_s hf
      refine g_callVv hx hb hml hown hts hK hap hsx hI (tX4_takeWord l hk0 q31 H.size) cv_X4_takeWord q_t5_124 rfl rfl ⟨Nat.le_of_ble_eq_true rfl, Nat.le_of_ble_eq_true rfl⟩ hk0.1 (by simp) rfl rfl rfl hl.1 rfl (Nat.le_of_ble_eq_true rfl) (dc tbX4_nextToken_1_k 7 rfl) ⟨Nat.le_of_ble_eq_true rfl, Nat.le_of_ble_eq_true rfl⟩ (fun H locs hI => ?_)
      refine lv_goto (tgt := 156) hx hb (dc tbX4_nextToken_1_k 8 rfl) rfl ?_
      cases hf
      exact g_vret hx hb hr hlk hI (dc tbX4_nextToken_1_k 37 rfl)
  · have hf := ite_f c8 hf
    refine lv_aload_n hx hb (dc tbX4_nextToken_0_k 35 rfl) rfl (lv_at hl 0 rfl) ?_
    refine lv_iconst (v := 0) hx hb (dc tbX4_nextToken_0_k 36 rfl) ic_0 ?_
    obtain ⟨M34, e35, hf⟩ := bnd_s hf
    refine gp4_6 hx hb hts hown hK hap hI hk0.1 q_t1_51 (dc tbX4_nextToken_0_k 37 rfl) e35 (fun H locs hI => ?_)
    refine lv_goto (tgt := 156) hx hb (dc tbX4_nextToken_0_k 38 rfl) rfl ?_
    cases hf
    exact g_vret hx hb hr hlk hI (dc tbX4_nextToken_1_k 37 rfl)
def mX4_nextToken_b8 (k0 : Nat) (ih8 : Mem → Option (Mem × Unit)) (M : Mem) : Option (Mem × Unit) := ite2 ((rd M k0 3) ≤ (rd M k0 4)) (mX4_nextToken_b47 k0 M) (chk (decide (rd M k0 2 = 1)) (chk (okb (rd M k0 4) 600) (cap (mX4_isSpace (rd M 1 ((rd M k0 4)).toNatClampNeg) M) (fun r39 => ite2 (r39 = 0) (mX4_nextToken_b47 k0 M) (bnd (wr M k0 4 ((rd M k0 4) + (1 : Int32))) (fun M42 => ih8 M42))))))
set_option maxHeartbeats 4000000 in
set_option maxRecDepth 100000 in
theorem tX4_nextToken_b8 {p : Program} {l : Launch} {e : Env} {s : State} {m : MethodId} {args : Array Value} {below : List Frame} {meth : Method} {c : Code} {G : GT} {kd : Nat → Nat × Nat} {ad : Nat → Nat} (C : Cx p s m args meth c cX4_nextToken 1 none RX4 G kd ad) {k0 : Nat} (hk0 : kReader kd k0) {MO : Mem} {vo : Unit} {ih8 : Mem → Option (Mem × Unit)} (hih8 : ∀  (M : Mem), ih8 M = some (MO, vo) → At p l e (rmO 2 0 0) s m args below meth c 0 0 (MQ below (Qg G kd ad s.heap.size MO none) args s 0 0 (AS kd ad s.heap.size)) G kd ad 1 8 [(0, .ref (ad k0))] [] M) : ∀  (M : Mem), mX4_nextToken_b8 k0 ih8 M = some (MO, vo) → At p l e (rmO 2 0 0) s m args below meth c 0 0 (MQ below (Qg G kd ad s.heap.size MO none) args s 0 0 (AS kd ad s.heap.size)) G kd ad 1 8 [(0, .ref (ad k0))] [] M := by
  intro M hf H locs ls hI hl
  obtain ⟨hx, hb, hml, hr, hown, hts, hlk, hK, hap, hsx⟩ := id C
  unfold mX4_nextToken_b8 at hf
  refine lv_aload_n hx hb (dc tbX4_nextToken_0_k 4 rfl) rfl (lv_at hl 0 rfl) ?_
  refine gg4_4 hx hb hts hown hK hI hk0.1 q_t1_49 (dc tbX4_nextToken_0_k 5 rfl) ?_
  refine lv_aload_n hx hb (dc tbX4_nextToken_0_k 6 rfl) rfl (lv_at hl 0 rfl) ?_
  refine gg4_3 hx hb hts hown hK hI hk0.1 q_t1_48 (dc tbX4_nextToken_0_k 7 rfl) ?_
  refine lv_icmp_ge (tgt := 47) hx hb (dc tbX4_nextToken_0_k 8 rfl) rfl (fun c3 => ?_) (fun c3 => ?_)
  · have hf := ite_t c3 hf
    exact tX4_nextToken_b47 C hk0 M hf _ _ _ hI (lv_sub hl [0] rfl)
  · have hf := ite_f c3 hf
    refine lv_aload_n hx hb (dc tbX4_nextToken_0_k 9 rfl) rfl (lv_at hl 0 rfl) ?_
    obtain ⟨h36, hf⟩ := chk_s hf
    refine gg4_2 hx hb hts hown hK hI hk0.1 q_t1_47 (dc tbX4_nextToken_0_k 10 rfl) ?_
    rw [byt_b h36]
    refine lv_aload_n hx hb (dc tbX4_nextToken_0_k 11 rfl) rfl (lv_at hl 0 rfl) ?_
    refine gg4_4 hx hb hts hown hK hI hk0.1 q_t1_49 (dc tbX4_nextToken_0_k 12 rfl) ?_
    obtain ⟨h37, hf⟩ := chk_s hf
    refine g_bald hx hb hK hI hk0.2.2 (okb_in h37) (dc tbX4_nextToken_0_k 13 rfl) ?_
    obtain ⟨r39, q38, hf⟩ := cap_s hf
    refine g_callSi hx hb hml hown hts hK hap hsx hI (tX4_isSpace l  q38 H.size) cs_X4_isSpace q_t5_118 rfl rfl ⟨Nat.le_of_ble_eq_true rfl, Nat.le_of_ble_eq_true rfl⟩ rfl hl.1 rfl (Nat.le_of_ble_eq_true rfl) (dc tbX4_nextToken_0_k 14 rfl) ⟨Nat.le_of_ble_eq_true rfl, Nat.le_of_ble_eq_true rfl⟩ (fun H locs hI => ?_)
    refine lv_if_eq (tgt := 47) hx hb (dc tbX4_nextToken_0_k 15 rfl) rfl (fun c41 => ?_) (fun c41 => ?_)
    · have hf := ite_t c41 hf
      exact tX4_nextToken_b47 C hk0 M hf _ _ _ hI (lv_sub hl [0] rfl)
    · have hf := ite_f c41 hf
      refine lv_aload_n hx hb (dc tbX4_nextToken_0_k 16 rfl) rfl (lv_at hl 0 rfl) ?_
      refine lv_dup hx hb (dc tbX4_nextToken_0_k 17 rfl) rfl ?_
      refine gg4_4 hx hb hts hown hK hI hk0.1 q_t1_49 (dc tbX4_nextToken_0_k 18 rfl) ?_
      refine lv_iconst (v := 1) hx hb (dc tbX4_nextToken_0_k 19 rfl) ic_1 ?_
      refine lv_iadd hx hb (dc tbX4_nextToken_0_k 20 rfl) ?_
      obtain ⟨M42, e43, hf⟩ := bnd_s hf
      refine gp4_4 hx hb hts hown hK hap hI hk0.1 q_t1_49 (dc tbX4_nextToken_0_k 21 rfl) e43 (fun H locs hI => ?_)
      refine lv_goto (tgt := 8) hx hb (dc tbX4_nextToken_0_k 22 rfl) rfl ?_
      exact hih8 M42 hf _ _ _ hI (lv_sub hl [0] rfl)
def mX4_nextToken_l8 (k0 : Nat) : Nat → Mem → Option (Mem × Unit)
  | 0 => fun  _ => none
  | n + 1 => mX4_nextToken_b8 k0 (mX4_nextToken_l8 k0 n)
theorem tX4_nextToken_l8 {p : Program} {l : Launch} {e : Env} {s : State} {m : MethodId} {args : Array Value} {below : List Frame} {meth : Method} {c : Code} {G : GT} {kd : Nat → Nat × Nat} {ad : Nat → Nat} (C : Cx p s m args meth c cX4_nextToken 1 none RX4 G kd ad) {k0 : Nat} (hk0 : kReader kd k0) {MO : Mem} {vo : Unit}   : ∀ (fuel : Nat)  (M : Mem), mX4_nextToken_l8 k0 fuel M = some (MO, vo) → At p l e (rmO 2 0 0) s m args below meth c 0 0 (MQ below (Qg G kd ad s.heap.size MO none) args s 0 0 (AS kd ad s.heap.size)) G kd ad 1 8 [(0, .ref (ad k0))] [] M := by
  intro fuel
  induction fuel with
  | zero => intro M hf; cases hf
  | succ n IH => exact tX4_nextToken_b8 C hk0 IH
def mX4_nextToken (k0 : Nat) (M : Mem) : Option (Mem × Unit) := bnd (wr M k0 4 (rd M k0 5)) (fun M1 => mX4_nextToken_l8 k0 5000 M1)
set_option maxHeartbeats 4000000 in
set_option maxRecDepth 100000 in
theorem tX4_nextToken (l : Launch) {G : GT} {kd : Nat → Nat × Nat} {ad : Nat → Nat} {k0 : Nat} (hk0 : kReader kd k0) {M : Mem} {MO : Mem} {vo : Unit} (hf : mX4_nextToken k0 M = some (MO, vo)) (n : Nat) : Met l yX4_nextToken (Cond.code yX4_nextToken cX4_nextToken 1 none :: WA) (rmO 2 0 0) (Pg G kd ad n [.ref (ad k0)] M) (Qg G kd ad n MO none) 0 0 (AS kd ad n) := by
  refine g_body (own := RX4) (by decide) rfl ?_ (Nat.le_of_ble_eq_true rfl)
  intro p e s m args below meth c C _ H locs ls hI hl
  obtain ⟨hx, hb, hml, hr, hown, hts, hlk, hK, hap, hsx⟩ := id C
  have hl : lv_has ls 1 [(0, .ref (ad k0))] := hl
  unfold mX4_nextToken at hf
  refine lv_aload_n hx hb (dc tbX4_nextToken_0_k 0 rfl) rfl (lv_at hl 0 rfl) ?_
  refine lv_aload_n hx hb (dc tbX4_nextToken_0_k 1 rfl) rfl (lv_at hl 0 rfl) ?_
  refine gg4_5 hx hb hts hown hK hI hk0.1 q_t1_50 (dc tbX4_nextToken_0_k 2 rfl) ?_
  obtain ⟨M1, e2, hf⟩ := bnd_s hf
  refine gp4_4 hx hb hts hown hK hap hI hk0.1 q_t1_49 (dc tbX4_nextToken_0_k 3 rfl) e2 (fun H locs hI => ?_)
  exact tX4_nextToken_l8 C hk0 5000 M1 hf _ _ _ hI (lv_sub hl [0] rfl)
theorem cv_X4_nextToken : cvF RX4 yX4_nextToken cX4_nextToken 1 none 0 := ⟨q_t5_116, q_s2_3, q_t1_2, q_t5_117, by decide +kernel⟩
def mX4_errorIfNot (k0 : Nat) (x1 : Int32) (x2 : Int32) (M : Mem) : Option Int32 := ite2 ((rd M k0 6) = (1 : Int32)) (some (1 : Int32)) (ite2 ((rd M k0 6) = x1) (some x2) (some (2 : Int32)))
set_option maxHeartbeats 4000000 in
set_option maxRecDepth 100000 in
theorem tX4_errorIfNot (l : Launch) {G : GT} {kd : Nat → Nat × Nat} {ad : Nat → Nat} {k0 : Nat} (hk0 : kReader kd k0) {x1 : Int32} {x2 : Int32} {M : Mem} {vo : Int32} (hf : mX4_errorIfNot k0 x1 x2 M = some vo) (n : Nat) : Met l yX4_errorIfNot (Cond.code yX4_errorIfNot cX4_errorIfNot 3 (some .int) :: WA) (rmO 0 0 0) (Pg G kd ad n [.ref (ad k0), .int x1, .int x2] M) (Qg G kd ad n M (some (.int vo))) 0 0 (AS kd ad n) := by
  refine g_body (own := RX4) (by decide) rfl ?_ (Nat.le_of_ble_eq_true rfl)
  intro p e s m args below meth c C _ H locs ls hI hl
  obtain ⟨hx, hb, hml, hr, hown, hts, hlk, hK, hap, hsx⟩ := id C
  have hl : lv_has ls 3 [(0, .ref (ad k0)), (1, .int x1), (2, .int x2)] := hl
  unfold mX4_errorIfNot at hf
  refine lv_aload_n hx hb (dc tbX4_errorIfNot_k 0 rfl) rfl (lv_at hl 0 rfl) ?_
  refine gg4_6 hx hb hts hown hK hI hk0.1 q_t1_51 (dc tbX4_errorIfNot_k 1 rfl) ?_
  refine lv_iconst (v := 1) hx hb (dc tbX4_errorIfNot_k 2 rfl) ic_1 ?_
  refine lv_icmp_ne (tgt := 10) hx hb (dc tbX4_errorIfNot_k 3 rfl) rfl (fun c1 => ?_) (fun c1 => ?_)
  · have hf := ite_f c1 hf
    refine lv_aload_n hx hb (dc tbX4_errorIfNot_k 6 rfl) rfl (lv_at hl 0 rfl) ?_
    refine gg4_6 hx hb hts hown hK hI hk0.1 q_t1_51 (dc tbX4_errorIfNot_k 7 rfl) ?_
    refine lv_iload_n hx hb (dc tbX4_errorIfNot_k 8 rfl) rfl (lv_at hl 1 rfl) ?_
    refine lv_icmp_eq (tgt := 22) hx hb (dc tbX4_errorIfNot_k 9 rfl) rfl (fun c2 => ?_) (fun c2 => ?_)
    · have hf := ite_t c2 hf
      refine lv_iload_n hx hb (dc tbX4_errorIfNot_k 12 rfl) rfl (lv_at hl 2 rfl) ?_
      cases hf
      exact g_iret hx hb hr hlk hI (dc tbX4_errorIfNot_k 13 rfl)
    · have hf := ite_f c2 hf
      refine lv_iconst (v := 2) hx hb (dc tbX4_errorIfNot_k 10 rfl) ic_2 ?_
      refine lv_goto (tgt := 23) hx hb (dc tbX4_errorIfNot_k 11 rfl) rfl ?_
      cases hf
      exact g_iret hx hb hr hlk hI (dc tbX4_errorIfNot_k 13 rfl)
  · have hf := ite_t c1 hf
    refine lv_iconst (v := 1) hx hb (dc tbX4_errorIfNot_k 4 rfl) ic_1 ?_
    cases hf
    exact g_iret hx hb hr hlk hI (dc tbX4_errorIfNot_k 5 rfl)
theorem cv_X4_errorIfNot : cvF RX4 yX4_errorIfNot cX4_errorIfNot 3 (some .int) 2 := ⟨q_t5_167, q_s2_8, q_t1_2, q_t5_168, by decide +kernel⟩
