def mX4_isSpace_b12 (M : Mem) : Option Int32 := some (1 : Int32)
set_option maxHeartbeats 4000000 in
set_option maxRecDepth 100000 in
theorem tX4_isSpace_b12 {p : Program} {l : Launch} {e : Env} {s : State} {m : MethodId} {args : Array Value} {below : List Frame} {meth : Method} {c : Code} {G : GT} {kd : Nat → Nat × Nat} {ad : Nat → Nat} (C : Cx p s m args meth c cX4_isSpace 1 (some .boolean) RX4 G kd ad)  {M : Mem} {vo : Int32}   : mX4_isSpace_b12  M = some vo → At p l e (rmO 0 0 0) s m args below meth c 0 0 (MQ below (Qg G kd ad s.heap.size M (some (.int vo))) args s 0 0 (AS kd ad s.heap.size)) G kd ad 1 12 [] [] M := by
  intro hf H locs ls hI hl
  obtain ⟨hx, hb, hml, hr, hown, hts, hlk, hK, hap, hsx⟩ := id C
  unfold mX4_isSpace_b12 at hf
  refine lv_iconst (v := 1) hx hb (dc tbX4_isSpace_k 6 rfl) ic_1 ?_
  refine lv_goto (tgt := 17) hx hb (dc tbX4_isSpace_k 7 rfl) rfl ?_
  cases hf
  exact g_zret hx hb hr hlk hI rfl (dc tbX4_isSpace_k 9 rfl)
def mX4_isSpace (x0 : Int32) (M : Mem) : Option Int32 := ite2 (x0 = (32 : Int32)) (mX4_isSpace_b12  M) (ite2 (x0 = (10 : Int32)) (mX4_isSpace_b12  M) (some (0 : Int32)))
set_option maxHeartbeats 4000000 in
set_option maxRecDepth 100000 in
theorem tX4_isSpace (l : Launch) {G : GT} {kd : Nat → Nat × Nat} {ad : Nat → Nat}  {x0 : Int32} {M : Mem} {vo : Int32} (hf : mX4_isSpace  x0 M = some vo) (n : Nat) : Met l yX4_isSpace (Cond.code yX4_isSpace cX4_isSpace 1 (some .boolean) :: WA) (rmO 0 0 0) (Pg G kd ad n [.int x0] M) (Qg G kd ad n M (some (.int vo))) 0 0 (AS kd ad n) := by
  refine g_body (own := RX4) (by decide) rfl ?_ (Nat.le_of_ble_eq_true rfl)
  intro p e s m args below meth c C _ H locs ls hI hl
  obtain ⟨hx, hb, hml, hr, hown, hts, hlk, hK, hap, hsx⟩ := id C
  have hl : lv_has ls 1 [(0, .int x0)] := hl
  unfold mX4_isSpace at hf
  refine lv_iload_n hx hb (dc tbX4_isSpace_k 0 rfl) rfl (lv_at hl 0 rfl) ?_
  refine lv_bipush (v := 32) hx hb (dc tbX4_isSpace_k 1 rfl) bp_32 ?_
  refine lv_icmp_eq (tgt := 12) hx hb (dc tbX4_isSpace_k 2 rfl) rfl (fun c1 => ?_) (fun c1 => ?_)
  · have hf := ite_t c1 hf
    exact tX4_isSpace_b12 C  hf _ _ _ hI (lv_sub hl [] rfl)
  · have hf := ite_f c1 hf
    refine lv_iload_n hx hb (dc tbX4_isSpace_k 3 rfl) rfl (lv_at hl 0 rfl) ?_
    refine lv_bipush (v := 10) hx hb (dc tbX4_isSpace_k 4 rfl) bp_10 ?_
    refine lv_icmp_ne (tgt := 16) hx hb (dc tbX4_isSpace_k 5 rfl) rfl (fun c2 => ?_) (fun c2 => ?_)
    · have hf := ite_f c2 hf
      refine lv_iconst (v := 0) hx hb (dc tbX4_isSpace_k 8 rfl) ic_0 ?_
      cases hf
      exact g_zret hx hb hr hlk hI rfl (dc tbX4_isSpace_k 9 rfl)
    · have hf := ite_t c2 hf
      exact tX4_isSpace_b12 C  hf _ _ _ hI (lv_sub hl [] rfl)
theorem cs_X4_isSpace : csF yX4_isSpace cX4_isSpace 1 (some .boolean) 1 := ⟨q_t5_119, q_t1_2, q_t5_120, by decide +kernel⟩
def mX4_isLetter (x0 : Int32) (M : Mem) : Option Int32 := ite2 (x0 < (97 : Int32)) (some (0 : Int32)) (ite2 ((122 : Int32) < x0) (some (0 : Int32)) (some (1 : Int32)))
set_option maxHeartbeats 4000000 in
set_option maxRecDepth 100000 in
theorem tX4_isLetter (l : Launch) {G : GT} {kd : Nat → Nat × Nat} {ad : Nat → Nat}  {x0 : Int32} {M : Mem} {vo : Int32} (hf : mX4_isLetter  x0 M = some vo) (n : Nat) : Met l yX4_isLetter (Cond.code yX4_isLetter cX4_isLetter 1 (some .boolean) :: WA) (rmO 0 0 0) (Pg G kd ad n [.int x0] M) (Qg G kd ad n M (some (.int vo))) 0 0 (AS kd ad n) := by
  refine g_body (own := RX4) (by decide) rfl ?_ (Nat.le_of_ble_eq_true rfl)
  intro p e s m args below meth c C _ H locs ls hI hl
  obtain ⟨hx, hb, hml, hr, hown, hts, hlk, hK, hap, hsx⟩ := id C
  have hl : lv_has ls 1 [(0, .int x0)] := hl
  unfold mX4_isLetter at hf
  refine lv_iload_n hx hb (dc tbX4_isLetter_k 0 rfl) rfl (lv_at hl 0 rfl) ?_
  refine lv_bipush (v := 97) hx hb (dc tbX4_isLetter_k 1 rfl) bp_97 ?_
  refine lv_icmp_lt (tgt := 16) hx hb (dc tbX4_isLetter_k 2 rfl) rfl (fun c1 => ?_) (fun c1 => ?_)
  · have hf := ite_t c1 hf
    refine lv_iconst (v := 0) hx hb (dc tbX4_isLetter_k 8 rfl) ic_0 ?_
    cases hf
    exact g_zret hx hb hr hlk hI rfl (dc tbX4_isLetter_k 9 rfl)
  · have hf := ite_f c1 hf
    refine lv_iload_n hx hb (dc tbX4_isLetter_k 3 rfl) rfl (lv_at hl 0 rfl) ?_
    refine lv_bipush (v := 122) hx hb (dc tbX4_isLetter_k 4 rfl) bp_122 ?_
    refine lv_icmp_gt (tgt := 16) hx hb (dc tbX4_isLetter_k 5 rfl) rfl (fun c2 => ?_) (fun c2 => ?_)
    · have hf := ite_t c2 hf
      refine lv_iconst (v := 0) hx hb (dc tbX4_isLetter_k 8 rfl) ic_0 ?_
      cases hf
      exact g_zret hx hb hr hlk hI rfl (dc tbX4_isLetter_k 9 rfl)
    · have hf := ite_f c2 hf
      refine lv_iconst (v := 1) hx hb (dc tbX4_isLetter_k 6 rfl) ic_1 ?_
      refine lv_goto (tgt := 17) hx hb (dc tbX4_isLetter_k 7 rfl) rfl ?_
      cases hf
      exact g_zret hx hb hr hlk hI rfl (dc tbX4_isLetter_k 9 rfl)
theorem cs_X4_isLetter : csF yX4_isLetter cX4_isLetter 1 (some .boolean) 1 := ⟨q_t5_122, q_t1_2, q_t5_123, by decide +kernel⟩
def mX4_takeWord_b39 (k0 : Nat) (M : Mem) : Option (Mem × Unit) := ite2 ((6 : Int32) < ((rd M k0 5) - (rd M k0 4))) (bnd (wr M k0 6 (1 : Int32)) (fun M3 => some (M3, ()))) (bnd (wr M k0 6 (2 : Int32)) (fun M5 => some (M5, ())))
set_option maxHeartbeats 4000000 in
set_option maxRecDepth 100000 in
theorem tX4_takeWord_b39 {p : Program} {l : Launch} {e : Env} {s : State} {m : MethodId} {args : Array Value} {below : List Frame} {meth : Method} {c : Code} {G : GT} {kd : Nat → Nat × Nat} {ad : Nat → Nat} (C : Cx p s m args meth c cX4_takeWord 1 none RX4 G kd ad) {k0 : Nat} (hk0 : kReader kd k0) {MO : Mem} {vo : Unit}   : ∀  (M : Mem), mX4_takeWord_b39 k0 M = some (MO, vo) → At p l e (rmO 1 0 0) s m args below meth c 0 0 (MQ below (Qg G kd ad s.heap.size MO none) args s 0 0 (AS kd ad s.heap.size)) G kd ad 1 39 [(0, .ref (ad k0))] [] M := by
  intro M hf H locs ls hI hl
  obtain ⟨hx, hb, hml, hr, hown, hts, hlk, hK, hap, hsx⟩ := id C
  unfold mX4_takeWord_b39 at hf
  refine lv_aload_n hx hb (dc tbX4_takeWord_k 19 rfl) rfl (lv_at hl 0 rfl) ?_
  refine lv_aload_n hx hb (dc tbX4_takeWord_k 20 rfl) rfl (lv_at hl 0 rfl) ?_
  refine gg4_5 hx hb hts hown hK hI hk0.1 q_t1_50 (dc tbX4_takeWord_k 21 rfl) ?_
  refine lv_aload_n hx hb (dc tbX4_takeWord_k 22 rfl) rfl (lv_at hl 0 rfl) ?_
  refine gg4_4 hx hb hts hown hK hI hk0.1 q_t1_49 (dc tbX4_takeWord_k 23 rfl) ?_
  refine lv_isub hx hb (dc tbX4_takeWord_k 24 rfl) ?_
  refine lv_bipush (v := 6) hx hb (dc tbX4_takeWord_k 25 rfl) bp_6 ?_
  refine lv_icmp_gt (tgt := 58) hx hb (dc tbX4_takeWord_k 26 rfl) rfl (fun c2 => ?_) (fun c2 => ?_)
  · have hf := ite_t c2 hf
    refine lv_iconst (v := 1) hx hb (dc tbX4_takeWord_k 29 rfl) ic_1 ?_
    obtain ⟨M3, e4, hf⟩ := bnd_s hf
    refine gp4_6 hx hb hts hown hK hap hI hk0.1 q_t1_51 (dc tbX4_takeWord_k 30 rfl) e4 (fun H locs hI => ?_)
    cases hf
    exact g_vret hx hb hr hlk hI (dc tbX4_takeWord_k 31 rfl)
  · have hf := ite_f c2 hf
    refine lv_iconst (v := 2) hx hb (dc tbX4_takeWord_k 27 rfl) ic_2 ?_
    refine lv_goto (tgt := 59) hx hb (dc tbX4_takeWord_k 28 rfl) rfl ?_
    obtain ⟨M5, e6, hf⟩ := bnd_s hf
    refine gp4_6 hx hb hts hown hK hap hI hk0.1 q_t1_51 (dc tbX4_takeWord_k 30 rfl) e6 (fun H locs hI => ?_)
    cases hf
    exact g_vret hx hb hr hlk hI (dc tbX4_takeWord_k 31 rfl)
def mX4_takeWord_b0 (k0 : Nat) (ih0 : Mem → Option (Mem × Unit)) (M : Mem) : Option (Mem × Unit) := ite2 ((rd M k0 3) ≤ (rd M k0 5)) (mX4_takeWord_b39 k0 M) (chk (decide (rd M k0 2 = 1)) (chk (okb (rd M k0 5) 600) (cap (mX4_isLetter (rd M 1 ((rd M k0 5)).toNatClampNeg) M) (fun r10 => ite2 (r10 = 0) (mX4_takeWord_b39 k0 M) (bnd (wr M k0 5 ((rd M k0 5) + (1 : Int32))) (fun M13 => ih0 M13))))))
set_option maxHeartbeats 4000000 in
set_option maxRecDepth 100000 in
theorem tX4_takeWord_b0 {p : Program} {l : Launch} {e : Env} {s : State} {m : MethodId} {args : Array Value} {below : List Frame} {meth : Method} {c : Code} {G : GT} {kd : Nat → Nat × Nat} {ad : Nat → Nat} (C : Cx p s m args meth c cX4_takeWord 1 none RX4 G kd ad) {k0 : Nat} (hk0 : kReader kd k0) {MO : Mem} {vo : Unit} {ih0 : Mem → Option (Mem × Unit)} (hih0 : ∀  (M : Mem), ih0 M = some (MO, vo) → At p l e (rmO 1 0 0) s m args below meth c 0 0 (MQ below (Qg G kd ad s.heap.size MO none) args s 0 0 (AS kd ad s.heap.size)) G kd ad 1 0 [(0, .ref (ad k0))] [] M) : ∀  (M : Mem), mX4_takeWord_b0 k0 ih0 M = some (MO, vo) → At p l e (rmO 1 0 0) s m args below meth c 0 0 (MQ below (Qg G kd ad s.heap.size MO none) args s 0 0 (AS kd ad s.heap.size)) G kd ad 1 0 [(0, .ref (ad k0))] [] M := by
  intro M hf H locs ls hI hl
  obtain ⟨hx, hb, hml, hr, hown, hts, hlk, hK, hap, hsx⟩ := id C
  unfold mX4_takeWord_b0 at hf
  refine lv_aload_n hx hb (dc tbX4_takeWord_k 0 rfl) rfl (lv_at hl 0 rfl) ?_
  refine gg4_5 hx hb hts hown hK hI hk0.1 q_t1_50 (dc tbX4_takeWord_k 1 rfl) ?_
  refine lv_aload_n hx hb (dc tbX4_takeWord_k 2 rfl) rfl (lv_at hl 0 rfl) ?_
  refine gg4_3 hx hb hts hown hK hI hk0.1 q_t1_48 (dc tbX4_takeWord_k 3 rfl) ?_
  refine lv_icmp_ge (tgt := 39) hx hb (dc tbX4_takeWord_k 4 rfl) rfl (fun c1 => ?_) (fun c1 => ?_)
  · have hf := ite_t c1 hf
    exact tX4_takeWord_b39 C hk0 M hf _ _ _ hI (lv_sub hl [0] rfl)
  · have hf := ite_f c1 hf
    refine lv_aload_n hx hb (dc tbX4_takeWord_k 5 rfl) rfl (lv_at hl 0 rfl) ?_
    obtain ⟨h7, hf⟩ := chk_s hf
    refine gg4_2 hx hb hts hown hK hI hk0.1 q_t1_47 (dc tbX4_takeWord_k 6 rfl) ?_
    rw [byt_b h7]
    refine lv_aload_n hx hb (dc tbX4_takeWord_k 7 rfl) rfl (lv_at hl 0 rfl) ?_
    refine gg4_5 hx hb hts hown hK hI hk0.1 q_t1_50 (dc tbX4_takeWord_k 8 rfl) ?_
    obtain ⟨h8, hf⟩ := chk_s hf
    refine g_bald hx hb hK hI hk0.2.2 (okb_in h8) (dc tbX4_takeWord_k 9 rfl) ?_
    obtain ⟨r10, q9, hf⟩ := cap_s hf
    refine g_callSi hx hb hml hown hts hK hap hsx hI (tX4_isLetter l  q9 H.size) cs_X4_isLetter q_t5_121 rfl rfl ⟨Nat.le_of_ble_eq_true rfl, Nat.le_of_ble_eq_true rfl⟩ rfl hl.1 rfl (Nat.le_of_ble_eq_true rfl) (dc tbX4_takeWord_k 10 rfl) ⟨Nat.le_of_ble_eq_true rfl, Nat.le_of_ble_eq_true rfl⟩ (fun H locs hI => ?_)
    refine lv_if_eq (tgt := 39) hx hb (dc tbX4_takeWord_k 11 rfl) rfl (fun c12 => ?_) (fun c12 => ?_)
    · have hf := ite_t c12 hf
      exact tX4_takeWord_b39 C hk0 M hf _ _ _ hI (lv_sub hl [0] rfl)
    · have hf := ite_f c12 hf
      refine lv_aload_n hx hb (dc tbX4_takeWord_k 12 rfl) rfl (lv_at hl 0 rfl) ?_
      refine lv_dup hx hb (dc tbX4_takeWord_k 13 rfl) rfl ?_
      refine gg4_5 hx hb hts hown hK hI hk0.1 q_t1_50 (dc tbX4_takeWord_k 14 rfl) ?_
      refine lv_iconst (v := 1) hx hb (dc tbX4_takeWord_k 15 rfl) ic_1 ?_
      refine lv_iadd hx hb (dc tbX4_takeWord_k 16 rfl) ?_
      obtain ⟨M13, e14, hf⟩ := bnd_s hf
      refine gp4_5 hx hb hts hown hK hap hI hk0.1 q_t1_50 (dc tbX4_takeWord_k 17 rfl) e14 (fun H locs hI => ?_)
      refine lv_goto (tgt := 0) hx hb (dc tbX4_takeWord_k 18 rfl) rfl ?_
      exact hih0 M13 hf _ _ _ hI (lv_sub hl [0] rfl)
def mX4_takeWord_l0 (k0 : Nat) : Nat → Mem → Option (Mem × Unit)
  | 0 => fun  _ => none
  | n + 1 => mX4_takeWord_b0 k0 (mX4_takeWord_l0 k0 n)
theorem tX4_takeWord_l0 {p : Program} {l : Launch} {e : Env} {s : State} {m : MethodId} {args : Array Value} {below : List Frame} {meth : Method} {c : Code} {G : GT} {kd : Nat → Nat × Nat} {ad : Nat → Nat} (C : Cx p s m args meth c cX4_takeWord 1 none RX4 G kd ad) {k0 : Nat} (hk0 : kReader kd k0) {MO : Mem} {vo : Unit}   : ∀ (fuel : Nat)  (M : Mem), mX4_takeWord_l0 k0 fuel M = some (MO, vo) → At p l e (rmO 1 0 0) s m args below meth c 0 0 (MQ below (Qg G kd ad s.heap.size MO none) args s 0 0 (AS kd ad s.heap.size)) G kd ad 1 0 [(0, .ref (ad k0))] [] M := by
  intro fuel
  induction fuel with
  | zero => intro M hf; cases hf
  | succ n IH => exact tX4_takeWord_b0 C hk0 IH
def mX4_takeWord (k0 : Nat) (M : Mem) : Option (Mem × Unit) := mX4_takeWord_l0 k0 5000 M
set_option maxHeartbeats 4000000 in
set_option maxRecDepth 100000 in
theorem tX4_takeWord (l : Launch) {G : GT} {kd : Nat → Nat × Nat} {ad : Nat → Nat} {k0 : Nat} (hk0 : kReader kd k0) {M : Mem} {MO : Mem} {vo : Unit} (hf : mX4_takeWord k0 M = some (MO, vo)) (n : Nat) : Met l yX4_takeWord (Cond.code yX4_takeWord cX4_takeWord 1 none :: WA) (rmO 1 0 0) (Pg G kd ad n [.ref (ad k0)] M) (Qg G kd ad n MO none) 0 0 (AS kd ad n) := by
  refine g_body (own := RX4) (by decide) rfl ?_ (Nat.le_of_ble_eq_true rfl)
  intro p e s m args below meth c C _ H locs ls hI hl
  obtain ⟨hx, hb, hml, hr, hown, hts, hlk, hK, hap, hsx⟩ := id C
  have hl : lv_has ls 1 [(0, .ref (ad k0))] := hl
  unfold mX4_takeWord at hf
  exact tX4_takeWord_l0 C hk0 5000 M hf _ _ _ hI (lv_sub hl [0] rfl)
theorem cv_X4_takeWord : cvF RX4 yX4_takeWord cX4_takeWord 1 none 0 := ⟨q_t5_126, q_s2_4, q_t1_2, q_t5_127, by decide +kernel⟩
def mX4_isDigit (x0 : Int32) (M : Mem) : Option Int32 := ite2 (x0 < (48 : Int32)) (some (0 : Int32)) (ite2 ((57 : Int32) < x0) (some (0 : Int32)) (some (1 : Int32)))
set_option maxHeartbeats 4000000 in
set_option maxRecDepth 100000 in
theorem tX4_isDigit (l : Launch) {G : GT} {kd : Nat → Nat × Nat} {ad : Nat → Nat}  {x0 : Int32} {M : Mem} {vo : Int32} (hf : mX4_isDigit  x0 M = some vo) (n : Nat) : Met l yX4_isDigit (Cond.code yX4_isDigit cX4_isDigit 1 (some .boolean) :: WA) (rmO 0 0 0) (Pg G kd ad n [.int x0] M) (Qg G kd ad n M (some (.int vo))) 0 0 (AS kd ad n) := by
  refine g_body (own := RX4) (by decide) rfl ?_ (Nat.le_of_ble_eq_true rfl)
  intro p e s m args below meth c C _ H locs ls hI hl
  obtain ⟨hx, hb, hml, hr, hown, hts, hlk, hK, hap, hsx⟩ := id C
  have hl : lv_has ls 1 [(0, .int x0)] := hl
  unfold mX4_isDigit at hf
  refine lv_iload_n hx hb (dc tbX4_isDigit_k 0 rfl) rfl (lv_at hl 0 rfl) ?_
  refine lv_bipush (v := 48) hx hb (dc tbX4_isDigit_k 1 rfl) bp_48 ?_
  refine lv_icmp_lt (tgt := 16) hx hb (dc tbX4_isDigit_k 2 rfl) rfl (fun c1 => ?_) (fun c1 => ?_)
  · have hf := ite_t c1 hf
    refine lv_iconst (v := 0) hx hb (dc tbX4_isDigit_k 8 rfl) ic_0 ?_
    cases hf
    exact g_zret hx hb hr hlk hI rfl (dc tbX4_isDigit_k 9 rfl)
  · have hf := ite_f c1 hf
    refine lv_iload_n hx hb (dc tbX4_isDigit_k 3 rfl) rfl (lv_at hl 0 rfl) ?_
    refine lv_bipush (v := 57) hx hb (dc tbX4_isDigit_k 4 rfl) bp_57 ?_
    refine lv_icmp_gt (tgt := 16) hx hb (dc tbX4_isDigit_k 5 rfl) rfl (fun c2 => ?_) (fun c2 => ?_)
    · have hf := ite_t c2 hf
      refine lv_iconst (v := 0) hx hb (dc tbX4_isDigit_k 8 rfl) ic_0 ?_
      cases hf
      exact g_zret hx hb hr hlk hI rfl (dc tbX4_isDigit_k 9 rfl)
    · have hf := ite_f c2 hf
      refine lv_iconst (v := 1) hx hb (dc tbX4_isDigit_k 6 rfl) ic_1 ?_
      refine lv_goto (tgt := 17) hx hb (dc tbX4_isDigit_k 7 rfl) rfl ?_
      cases hf
      exact g_zret hx hb hr hlk hI rfl (dc tbX4_isDigit_k 9 rfl)
theorem cs_X4_isDigit : csF yX4_isDigit cX4_isDigit 1 (some .boolean) 1 := ⟨q_t5_129, q_t1_2, q_t5_130, by decide +kernel⟩
def mX4_takeNumber_b76 (k0 : Nat) (M : Mem) : Option (Mem × Unit) := ite2 ((4 : Int32) < ((rd M k0 5) - (rd M k0 4))) (bnd (wr M k0 6 (1 : Int32)) (fun M3 => some (M3, ()))) (bnd (wr M k0 6 (3 : Int32)) (fun M5 => some (M5, ())))
set_option maxHeartbeats 4000000 in
set_option maxRecDepth 100000 in
theorem tX4_takeNumber_b76 {p : Program} {l : Launch} {e : Env} {s : State} {m : MethodId} {args : Array Value} {below : List Frame} {meth : Method} {c : Code} {G : GT} {kd : Nat → Nat × Nat} {ad : Nat → Nat} (C : Cx p s m args meth c cX4_takeNumber 1 none RX4 G kd ad) {k0 : Nat} (hk0 : kReader kd k0) {MO : Mem} {vo : Unit}   : ∀  (M : Mem), mX4_takeNumber_b76 k0 M = some (MO, vo) → At p l e (rmO 1 0 0) s m args below meth c 0 0 (MQ below (Qg G kd ad s.heap.size MO none) args s 0 0 (AS kd ad s.heap.size)) G kd ad 1 76 [(0, .ref (ad k0))] [] M := by
  intro M hf H locs ls hI hl
  obtain ⟨hx, hb, hml, hr, hown, hts, hlk, hK, hap, hsx⟩ := id C
  unfold mX4_takeNumber_b76 at hf
  refine lv_aload_n hx hb (dc tbX4_takeNumber_1_k 0 rfl) rfl (lv_at hl 0 rfl) ?_
  refine lv_aload_n hx hb (dc tbX4_takeNumber_1_k 1 rfl) rfl (lv_at hl 0 rfl) ?_
  refine gg4_5 hx hb hts hown hK hI hk0.1 q_t1_50 (dc tbX4_takeNumber_1_k 2 rfl) ?_
  refine lv_aload_n hx hb (dc tbX4_takeNumber_1_k 3 rfl) rfl (lv_at hl 0 rfl) ?_
  refine gg4_4 hx hb hts hown hK hI hk0.1 q_t1_49 (dc tbX4_takeNumber_1_k 4 rfl) ?_
  refine lv_isub hx hb (dc tbX4_takeNumber_1_k 5 rfl) ?_
  refine lv_iconst (v := 4) hx hb (dc tbX4_takeNumber_1_k 6 rfl) ic_4 ?_
  refine lv_icmp_gt (tgt := 94) hx hb (dc tbX4_takeNumber_1_k 7 rfl) rfl (fun c2 => ?_) (fun c2 => ?_)
  · have hf := ite_t c2 hf
    refine lv_iconst (v := 1) hx hb (dc tbX4_takeNumber_1_k 10 rfl) ic_1 ?_
    obtain ⟨M3, e4, hf⟩ := bnd_s hf
    refine gp4_6 hx hb hts hown hK hap hI hk0.1 q_t1_51 (dc tbX4_takeNumber_1_k 11 rfl) e4 (fun H locs hI => ?_)
    cases hf
    exact g_vret hx hb hr hlk hI (dc tbX4_takeNumber_1_k 12 rfl)
  · have hf := ite_f c2 hf
    refine lv_iconst (v := 3) hx hb (dc tbX4_takeNumber_1_k 8 rfl) ic_3 ?_
    refine lv_goto (tgt := 95) hx hb (dc tbX4_takeNumber_1_k 9 rfl) rfl ?_
    obtain ⟨M5, e6, hf⟩ := bnd_s hf
    refine gp4_6 hx hb hts hown hK hap hI hk0.1 q_t1_51 (dc tbX4_takeNumber_1_k 11 rfl) e6 (fun H locs hI => ?_)
    cases hf
    exact g_vret hx hb hr hlk hI (dc tbX4_takeNumber_1_k 12 rfl)
def mX4_takeNumber_b63 (k0 : Nat) (ih0 : Mem → Option (Mem × Unit)) (M : Mem) : Option (Mem × Unit) := bnd (wr M k0 5 ((rd M k0 5) + (1 : Int32))) (fun M14 => ih0 M14)
set_option maxHeartbeats 4000000 in
set_option maxRecDepth 100000 in
theorem tX4_takeNumber_b63 {p : Program} {l : Launch} {e : Env} {s : State} {m : MethodId} {args : Array Value} {below : List Frame} {meth : Method} {c : Code} {G : GT} {kd : Nat → Nat × Nat} {ad : Nat → Nat} (C : Cx p s m args meth c cX4_takeNumber 1 none RX4 G kd ad) {k0 : Nat} (hk0 : kReader kd k0) {MO : Mem} {vo : Unit} {ih0 : Mem → Option (Mem × Unit)} (hih0 : ∀  (M : Mem), ih0 M = some (MO, vo) → At p l e (rmO 1 0 0) s m args below meth c 0 0 (MQ below (Qg G kd ad s.heap.size MO none) args s 0 0 (AS kd ad s.heap.size)) G kd ad 1 0 [(0, .ref (ad k0))] [] M) : ∀  (M : Mem), mX4_takeNumber_b63 k0 ih0 M = some (MO, vo) → At p l e (rmO 1 0 0) s m args below meth c 0 0 (MQ below (Qg G kd ad s.heap.size MO none) args s 0 0 (AS kd ad s.heap.size)) G kd ad 1 63 [(0, .ref (ad k0))] [] M := by
  intro M hf H locs ls hI hl
  obtain ⟨hx, hb, hml, hr, hown, hts, hlk, hK, hap, hsx⟩ := id C
  unfold mX4_takeNumber_b63 at hf
  refine lv_aload_n hx hb (dc tbX4_takeNumber_0_k 33 rfl) rfl (lv_at hl 0 rfl) ?_
  refine lv_dup hx hb (dc tbX4_takeNumber_0_k 34 rfl) rfl ?_
  refine gg4_5 hx hb hts hown hK hI hk0.1 q_t1_50 (dc tbX4_takeNumber_0_k 35 rfl) ?_
  refine lv_iconst (v := 1) hx hb (dc tbX4_takeNumber_0_k 36 rfl) ic_1 ?_
  refine lv_iadd hx hb (dc tbX4_takeNumber_0_k 37 rfl) ?_
  obtain ⟨M14, e15, hf⟩ := bnd_s hf
  refine gp4_5 hx hb hts hown hK hap hI hk0.1 q_t1_50 (dc tbX4_takeNumber_0_k 38 rfl) e15 (fun H locs hI => ?_)
  refine lv_goto (tgt := 0) hx hb (dc tbX4_takeNumber_0_k 39 rfl) rfl ?_
  exact hih0 M14 hf _ _ _ hI (lv_sub hl [0] rfl)
def mX4_takeNumber_b0 (k0 : Nat) (ih0 : Mem → Option (Mem × Unit)) (M : Mem) : Option (Mem × Unit) := ite2 ((rd M k0 3) ≤ (rd M k0 5)) (mX4_takeNumber_b76 k0 M) (chk (decide (rd M k0 2 = 1)) (chk (okb (rd M k0 5) 600) (cap (mX4_isDigit (rd M 1 ((rd M k0 5)).toNatClampNeg) M) (fun r10 => ite2 (r10 = 0) (mX4_takeNumber_b76 k0 M) (ite2 ((4 : Int32) ≤ ((rd M k0 5) - (rd M k0 4))) (mX4_takeNumber_b63 k0 ih0 M) (chk (decide (rd M k0 2 = 1)) (chk (okb (rd M k0 5) 600) (bnd (wr M k0 7 (((10 : Int32) * (rd M k0 7)) + ((rd M 1 ((rd M k0 5)).toNatClampNeg) - (48 : Int32)))) (fun M18 => mX4_takeNumber_b63 k0 ih0 M18)))))))))
set_option maxHeartbeats 4000000 in
set_option maxRecDepth 100000 in
theorem tX4_takeNumber_b0 {p : Program} {l : Launch} {e : Env} {s : State} {m : MethodId} {args : Array Value} {below : List Frame} {meth : Method} {c : Code} {G : GT} {kd : Nat → Nat × Nat} {ad : Nat → Nat} (C : Cx p s m args meth c cX4_takeNumber 1 none RX4 G kd ad) {k0 : Nat} (hk0 : kReader kd k0) {MO : Mem} {vo : Unit} {ih0 : Mem → Option (Mem × Unit)} (hih0 : ∀  (M : Mem), ih0 M = some (MO, vo) → At p l e (rmO 1 0 0) s m args below meth c 0 0 (MQ below (Qg G kd ad s.heap.size MO none) args s 0 0 (AS kd ad s.heap.size)) G kd ad 1 0 [(0, .ref (ad k0))] [] M) : ∀  (M : Mem), mX4_takeNumber_b0 k0 ih0 M = some (MO, vo) → At p l e (rmO 1 0 0) s m args below meth c 0 0 (MQ below (Qg G kd ad s.heap.size MO none) args s 0 0 (AS kd ad s.heap.size)) G kd ad 1 0 [(0, .ref (ad k0))] [] M := by
  intro M hf H locs ls hI hl
  obtain ⟨hx, hb, hml, hr, hown, hts, hlk, hK, hap, hsx⟩ := id C
  unfold mX4_takeNumber_b0 at hf
  refine lv_aload_n hx hb (dc tbX4_takeNumber_0_k 0 rfl) rfl (lv_at hl 0 rfl) ?_
  refine gg4_5 hx hb hts hown hK hI hk0.1 q_t1_50 (dc tbX4_takeNumber_0_k 1 rfl) ?_
  refine lv_aload_n hx hb (dc tbX4_takeNumber_0_k 2 rfl) rfl (lv_at hl 0 rfl) ?_
  refine gg4_3 hx hb hts hown hK hI hk0.1 q_t1_48 (dc tbX4_takeNumber_0_k 3 rfl) ?_
  refine lv_icmp_ge (tgt := 76) hx hb (dc tbX4_takeNumber_0_k 4 rfl) rfl (fun c1 => ?_) (fun c1 => ?_)
  · have hf := ite_t c1 hf
    exact tX4_takeNumber_b76 C hk0 M hf _ _ _ hI (lv_sub hl [0] rfl)
  · have hf := ite_f c1 hf
    refine lv_aload_n hx hb (dc tbX4_takeNumber_0_k 5 rfl) rfl (lv_at hl 0 rfl) ?_
    obtain ⟨h7, hf⟩ := chk_s hf
    refine gg4_2 hx hb hts hown hK hI hk0.1 q_t1_47 (dc tbX4_takeNumber_0_k 6 rfl) ?_
    rw [byt_b h7]
    refine lv_aload_n hx hb (dc tbX4_takeNumber_0_k 7 rfl) rfl (lv_at hl 0 rfl) ?_
    refine gg4_5 hx hb hts hown hK hI hk0.1 q_t1_50 (dc tbX4_takeNumber_0_k 8 rfl) ?_
    obtain ⟨h8, hf⟩ := chk_s hf
    refine g_bald hx hb hK hI hk0.2.2 (okb_in h8) (dc tbX4_takeNumber_0_k 9 rfl) ?_
    obtain ⟨r10, q9, hf⟩ := cap_s hf
    refine g_callSi hx hb hml hown hts hK hap hsx hI (tX4_isDigit l  q9 H.size) cs_X4_isDigit q_t5_128 rfl rfl ⟨Nat.le_of_ble_eq_true rfl, Nat.le_of_ble_eq_true rfl⟩ rfl hl.1 rfl (Nat.le_of_ble_eq_true rfl) (dc tbX4_takeNumber_0_k 10 rfl) ⟨Nat.le_of_ble_eq_true rfl, Nat.le_of_ble_eq_true rfl⟩ (fun H locs hI => ?_)
    refine lv_if_eq (tgt := 76) hx hb (dc tbX4_takeNumber_0_k 11 rfl) rfl (fun c12 => ?_) (fun c12 => ?_)
    · have hf := ite_t c12 hf
      exact tX4_takeNumber_b76 C hk0 M hf _ _ _ hI (lv_sub hl [0] rfl)
    · have hf := ite_f c12 hf
      refine lv_aload_n hx hb (dc tbX4_takeNumber_0_k 12 rfl) rfl (lv_at hl 0 rfl) ?_
      refine gg4_5 hx hb hts hown hK hI hk0.1 q_t1_50 (dc tbX4_takeNumber_0_k 13 rfl) ?_
      refine lv_aload_n hx hb (dc tbX4_takeNumber_0_k 14 rfl) rfl (lv_at hl 0 rfl) ?_
      refine gg4_4 hx hb hts hown hK hI hk0.1 q_t1_49 (dc tbX4_takeNumber_0_k 15 rfl) ?_
      refine lv_isub hx hb (dc tbX4_takeNumber_0_k 16 rfl) ?_
      refine lv_iconst (v := 4) hx hb (dc tbX4_takeNumber_0_k 17 rfl) ic_4 ?_
      refine lv_icmp_ge (tgt := 63) hx hb (dc tbX4_takeNumber_0_k 18 rfl) rfl (fun c13 => ?_) (fun c13 => ?_)
      · have hf := ite_t c13 hf
        exact tX4_takeNumber_b63 C hk0 hih0 M hf _ _ _ hI (lv_sub hl [0] rfl)
      · have hf := ite_f c13 hf
        refine lv_aload_n hx hb (dc tbX4_takeNumber_0_k 19 rfl) rfl (lv_at hl 0 rfl) ?_
        refine lv_bipush (v := 10) hx hb (dc tbX4_takeNumber_0_k 20 rfl) bp_10 ?_
        refine lv_aload_n hx hb (dc tbX4_takeNumber_0_k 21 rfl) rfl (lv_at hl 0 rfl) ?_
        refine gg4_7 hx hb hts hown hK hI hk0.1 q_t1_52 (dc tbX4_takeNumber_0_k 22 rfl) ?_
        refine lv_imul hx hb (dc tbX4_takeNumber_0_k 23 rfl) ?_
        refine lv_aload_n hx hb (dc tbX4_takeNumber_0_k 24 rfl) rfl (lv_at hl 0 rfl) ?_
        obtain ⟨h16, hf⟩ := chk_s hf
        refine gg4_2 hx hb hts hown hK hI hk0.1 q_t1_47 (dc tbX4_takeNumber_0_k 25 rfl) ?_
        rw [byt_b h16]
        refine lv_aload_n hx hb (dc tbX4_takeNumber_0_k 26 rfl) rfl (lv_at hl 0 rfl) ?_
        refine gg4_5 hx hb hts hown hK hI hk0.1 q_t1_50 (dc tbX4_takeNumber_0_k 27 rfl) ?_
        obtain ⟨h17, hf⟩ := chk_s hf
        refine g_bald hx hb hK hI hk0.2.2 (okb_in h17) (dc tbX4_takeNumber_0_k 28 rfl) ?_
        refine lv_bipush (v := 48) hx hb (dc tbX4_takeNumber_0_k 29 rfl) bp_48 ?_
        refine lv_isub hx hb (dc tbX4_takeNumber_0_k 30 rfl) ?_
        refine lv_iadd hx hb (dc tbX4_takeNumber_0_k 31 rfl) ?_
        obtain ⟨M18, e19, hf⟩ := bnd_s hf
        refine gp4_7 hx hb hts hown hK hap hI hk0.1 q_t1_52 (dc tbX4_takeNumber_0_k 32 rfl) e19 (fun H locs hI => ?_)
        exact tX4_takeNumber_b63 C hk0 hih0 M18 hf _ _ _ hI (lv_sub hl [0] rfl)
def mX4_takeNumber_l0 (k0 : Nat) : Nat → Mem → Option (Mem × Unit)
  | 0 => fun  _ => none
  | n + 1 => mX4_takeNumber_b0 k0 (mX4_takeNumber_l0 k0 n)
theorem tX4_takeNumber_l0 {p : Program} {l : Launch} {e : Env} {s : State} {m : MethodId} {args : Array Value} {below : List Frame} {meth : Method} {c : Code} {G : GT} {kd : Nat → Nat × Nat} {ad : Nat → Nat} (C : Cx p s m args meth c cX4_takeNumber 1 none RX4 G kd ad) {k0 : Nat} (hk0 : kReader kd k0) {MO : Mem} {vo : Unit}   : ∀ (fuel : Nat)  (M : Mem), mX4_takeNumber_l0 k0 fuel M = some (MO, vo) → At p l e (rmO 1 0 0) s m args below meth c 0 0 (MQ below (Qg G kd ad s.heap.size MO none) args s 0 0 (AS kd ad s.heap.size)) G kd ad 1 0 [(0, .ref (ad k0))] [] M := by
  intro fuel
  induction fuel with
  | zero => intro M hf; cases hf
  | succ n IH => exact tX4_takeNumber_b0 C hk0 IH
def mX4_takeNumber (k0 : Nat) (M : Mem) : Option (Mem × Unit) := mX4_takeNumber_l0 k0 5000 M
set_option maxHeartbeats 4000000 in
set_option maxRecDepth 100000 in
theorem tX4_takeNumber (l : Launch) {G : GT} {kd : Nat → Nat × Nat} {ad : Nat → Nat} {k0 : Nat} (hk0 : kReader kd k0) {M : Mem} {MO : Mem} {vo : Unit} (hf : mX4_takeNumber k0 M = some (MO, vo)) (n : Nat) : Met l yX4_takeNumber (Cond.code yX4_takeNumber cX4_takeNumber 1 none :: WA) (rmO 1 0 0) (Pg G kd ad n [.ref (ad k0)] M) (Qg G kd ad n MO none) 0 0 (AS kd ad n) := by
  refine g_body (own := RX4) (by decide) rfl ?_ (Nat.le_of_ble_eq_true rfl)
  intro p e s m args below meth c C _ H locs ls hI hl
  obtain ⟨hx, hb, hml, hr, hown, hts, hlk, hK, hap, hsx⟩ := id C
  have hl : lv_has ls 1 [(0, .ref (ad k0))] := hl
  unfold mX4_takeNumber at hf
  exact tX4_takeNumber_l0 C hk0 5000 M hf _ _ _ hI (lv_sub hl [0] rfl)
theorem cv_X4_takeNumber : cvF RX4 yX4_takeNumber cX4_takeNumber 1 none 0 := ⟨q_t5_133, q_s2_5, q_t1_2, q_t5_134, by decide +kernel⟩
def mX4_nextToken_b143 (k0 : Nat) (y1 : Int32) (M : Mem) : Option (Mem × Unit) := bnd (wr M k0 6 y1) (fun M24 => bnd (wr M24 k0 5 ((rd M24 k0 5) + (1 : Int32))) (fun M26 => some (M26, ())))
set_option maxHeartbeats 4000000 in
set_option maxRecDepth 100000 in
theorem tX4_nextToken_b143 {p : Program} {l : Launch} {e : Env} {s : State} {m : MethodId} {args : Array Value} {below : List Frame} {meth : Method} {c : Code} {G : GT} {kd : Nat → Nat × Nat} {ad : Nat → Nat} (C : Cx p s m args meth c cX4_nextToken 1 none RX4 G kd ad) {k0 : Nat} (hk0 : kReader kd k0) {MO : Mem} {vo : Unit}   : ∀ (y1 : Int32) (M : Mem), mX4_nextToken_b143 k0 y1 M = some (MO, vo) → At p l e (rmO 2 0 0) s m args below meth c 0 0 (MQ below (Qg G kd ad s.heap.size MO none) args s 0 0 (AS kd ad s.heap.size)) G kd ad 1 143 [(0, .ref (ad k0))] [.int y1, .ref (ad k0)] M := by
  intro y1 M hf H locs ls hI hl
  obtain ⟨hx, hb, hml, hr, hown, hts, hlk, hK, hap, hsx⟩ := id C
  unfold mX4_nextToken_b143 at hf
  obtain ⟨M24, e25, hf⟩ := bnd_s hf
  refine gp4_6 hx hb hts hown hK hap hI hk0.1 q_t1_51 (dc tbX4_nextToken_1_k 30 rfl) e25 (fun H locs hI => ?_)
  refine lv_aload_n hx hb (dc tbX4_nextToken_1_k 31 rfl) rfl (lv_at hl 0 rfl) ?_
  refine lv_dup hx hb (dc tbX4_nextToken_1_k 32 rfl) rfl ?_
  refine gg4_5 hx hb hts hown hK hI hk0.1 q_t1_50 (dc tbX4_nextToken_1_k 33 rfl) ?_
  refine lv_iconst (v := 1) hx hb (dc tbX4_nextToken_1_k 34 rfl) ic_1 ?_
  refine lv_iadd hx hb (dc tbX4_nextToken_1_k 35 rfl) ?_
  obtain ⟨M26, e27, hf⟩ := bnd_s hf
  refine gp4_5 hx hb hts hown hK hap hI hk0.1 q_t1_50 (dc tbX4_nextToken_1_k 36 rfl) e27 (fun H locs hI => ?_)
  cases hf
  exact g_vret hx hb hr hlk hI (dc tbX4_nextToken_1_k 37 rfl)
def mX4_nextToken_b47 (k0 : Nat) (M : Mem) : Option (Mem × Unit) := bnd (wr M k0 5 (rd M k0 4)) (fun M4 => bnd (wr M4 k0 7 (0 : Int32)) (fun M6 => ite2 ((rd M6 k0 4) < (rd M6 k0 3)) (chk (decide (rd M6 k0 2 = 1)) (chk (okb (rd M6 k0 4) 600) (cap (mX4_isLetter (rd M6 1 ((rd M6 k0 4)).toNatClampNeg) M6) (fun r12 => ite2 (r12 = 0) (chk (decide (rd M6 k0 2 = 1)) (chk (okb (rd M6 k0 4) 600) (cap (mX4_isDigit (rd M6 1 ((rd M6 k0 4)).toNatClampNeg) M6) (fun r18 => ite2 (r18 = 0) (chk (decide (rd M6 k0 2 = 1)) (chk (okb (rd M6 k0 4) 600) (ite2 ((rd M6 1 ((rd M6 k0 4)).toNatClampNeg) = (59 : Int32)) (mX4_nextToken_b143 k0 (4 : Int32) M6) (mX4_nextToken_b143 k0 (1 : Int32) M6)))) (cal (mX4_takeNumber k0 M6) (fun M30 _ => some (M30, ()))))))) (cal (mX4_takeWord k0 M6) (fun M33 _ => some (M33, ()))))))) (bnd (wr M6 k0 6 (0 : Int32)) (fun M34 => some (M34, ())))))
set_option maxHeartbeats 4000000 in
set_option maxRecDepth 100000 in
theorem tX4_nextToken_b47 {p : Program} {l : Launch} {e : Env} {s : State} {m : MethodId} {args : Array Value} {below : List Frame} {meth : Method} {c : Code} {G : GT} {kd : Nat → Nat × Nat} {ad : Nat → Nat} (C : Cx p s m args meth c cX4_nextToken 1 none RX4 G kd ad) {k0 : Nat} (hk0 : kReader kd k0) {MO : Mem} {vo : Unit}   : ∀  (M : Mem), mX4_nextToken_b47 k0 M = some (MO, vo) → At p l e (rmO 2 0 0) s m args below meth c 0 0 (MQ below (Qg G kd ad s.heap.size MO none) args s 0 0 (AS kd ad s.heap.size)) G kd ad 1 47 [(0, .ref (ad k0))] [] M := by
  intro M hf H locs ls hI hl
  obtain ⟨hx, hb, hml, hr, hown, hts, hlk, hK, hap, hsx⟩ := id C
  unfold mX4_nextToken_b47 at hf
  refine lv_aload_n hx hb (dc tbX4_nextToken_0_k 23 rfl) rfl (lv_at hl 0 rfl) ?_
  refine lv_aload_n hx hb (dc tbX4_nextToken_0_k 24 rfl) rfl (lv_at hl 0 rfl) ?_
  refine gg4_4 hx hb hts hown hK hI hk0.1 q_t1_49 (dc tbX4_nextToken_0_k 25 rfl) ?_
  obtain ⟨M4, e5, hf⟩ := bnd_s hf
  refine gp4_5 hx hb hts hown hK hap hI hk0.1 q_t1_50 (dc tbX4_nextToken_0_k 26 rfl) e5 (fun H locs hI => ?_)
  refine lv_aload_n hx hb (dc tbX4_nextToken_0_k 27 rfl) rfl (lv_at hl 0 rfl) ?_
  refine lv_iconst (v := 0) hx hb (dc tbX4_nextToken_0_k 28 rfl) ic_0 ?_
  obtain ⟨M6, e7, hf⟩ := bnd_s hf
  refine gp4_7 hx hb hts hown hK hap hI hk0.1 q_t1_52 (dc tbX4_nextToken_0_k 29 rfl) e7 (fun H locs hI => ?_)
  refine lv_aload_n hx hb (dc tbX4_nextToken_0_k 30 rfl) rfl (lv_at hl 0 rfl) ?_
  refine gg4_4 hx hb hts hown hK hI hk0.1 q_t1_49 (dc tbX4_nextToken_0_k 31 rfl) ?_
  refine lv_aload_n hx hb (dc tbX4_nextToken_0_k 32 rfl) rfl (lv_at hl 0 rfl) ?_
  refine gg4_3 hx hb hts hown hK hI hk0.1 q_t1_48 (dc tbX4_nextToken_0_k 33 rfl) ?_
  refine lv_icmp_lt (tgt := 79) hx hb (dc tbX4_nextToken_0_k 34 rfl) rfl (fun c8 => ?_) (fun c8 => ?_)
  · have hf := ite_t c8 hf
    refine lv_aload_n hx hb (dc tbX4_nextToken_0_k 39 rfl) rfl (lv_at hl 0 rfl) ?_
    obtain ⟨h9, hf⟩ := chk_s hf
    refine gg4_2 hx hb hts hown hK hI hk0.1 q_t1_47 (dc tbX4_nextToken_1_k 0 rfl) ?_
    rw [byt_b h9]
    refine lv_aload_n hx hb (dc tbX4_nextToken_1_k 1 rfl) rfl (lv_at hl 0 rfl) ?_
    refine gg4_4 hx hb hts hown hK hI hk0.1 q_t1_49 (dc tbX4_nextToken_1_k 2 rfl) ?_
    obtain ⟨h10, hf⟩ := chk_s hf
    refine g_bald hx hb hK hI hk0.2.2 (okb_in h10) (dc tbX4_nextToken_1_k 3 rfl) ?_
    obtain ⟨r12, q11, hf⟩ := cap_s hf
    refine g_callSi hx hb hml hown hts hK hap hsx hI (tX4_isLetter l  q11 H.size) cs_X4_isLetter q_t5_121 rfl rfl ⟨Nat.le_of_ble_eq_true rfl, Nat.le_of_ble_eq_true rfl⟩ rfl hl.1 rfl (Nat.le_of_ble_eq_true rfl) (dc tbX4_nextToken_1_k 4 rfl) ⟨Nat.le_of_ble_eq_true rfl, Nat.le_of_ble_eq_true rfl⟩ (fun H locs hI => ?_)
    refine lv_if_eq (tgt := 101) hx hb (dc tbX4_nextToken_1_k 5 rfl) rfl (fun c14 => ?_) (fun c14 => ?_)
    · have hf := ite_t c14 hf
      refine lv_aload_n hx hb (dc tbX4_nextToken_1_k 9 rfl) rfl (lv_at hl 0 rfl) ?_
      obtain ⟨h15, hf⟩ := chk_s hf
      refine gg4_2 hx hb hts hown hK hI hk0.1 q_t1_47 (dc tbX4_nextToken_1_k 10 rfl) ?_
      rw [byt_b h15]
      refine lv_aload_n hx hb (dc tbX4_nextToken_1_k 11 rfl) rfl (lv_at hl 0 rfl) ?_
      refine gg4_4 hx hb hts hown hK hI hk0.1 q_t1_49 (dc tbX4_nextToken_1_k 12 rfl) ?_
      obtain ⟨h16, hf⟩ := chk_s hf
      refine g_bald hx hb hK hI hk0.2.2 (okb_in h16) (dc tbX4_nextToken_1_k 13 rfl) ?_
      obtain ⟨r18, q17, hf⟩ := cap_s hf
      refine g_callSi hx hb hml hown hts hK hap hsx hI (tX4_isDigit l  q17 H.size) cs_X4_isDigit q_t5_128 rfl rfl ⟨Nat.le_of_ble_eq_true rfl, Nat.le_of_ble_eq_true rfl⟩ rfl hl.1 rfl (Nat.le_of_ble_eq_true rfl) (dc tbX4_nextToken_1_k 14 rfl) ⟨Nat.le_of_ble_eq_true rfl, Nat.le_of_ble_eq_true rfl⟩ (fun H locs hI => ?_)
      refine lv_if_eq (tgt := 123) hx hb (dc tbX4_nextToken_1_k 15 rfl) rfl (fun c20 => ?_) (fun c20 => ?_)
      · have hf := ite_t c20 hf
        refine lv_aload_n hx hb (dc tbX4_nextToken_1_k 19 rfl) rfl (lv_at hl 0 rfl) ?_
        refine lv_aload_n hx hb (dc tbX4_nextToken_1_k 20 rfl) rfl (lv_at hl 0 rfl) ?_
        obtain ⟨h21, hf⟩ := chk_s hf
        refine gg4_2 hx hb hts hown hK hI hk0.1 q_t1_47 (dc tbX4_nextToken_1_k 21 rfl) ?_
        rw [byt_b h21]
        refine lv_aload_n hx hb (dc tbX4_nextToken_1_k 22 rfl) rfl (lv_at hl 0 rfl) ?_
        refine gg4_4 hx hb hts hown hK hI hk0.1 q_t1_49 (dc tbX4_nextToken_1_k 23 rfl) ?_
        obtain ⟨h22, hf⟩ := chk_s hf
        refine g_bald hx hb hK hI hk0.2.2 (okb_in h22) (dc tbX4_nextToken_1_k 24 rfl) ?_
        refine lv_bipush (v := 59) hx hb (dc tbX4_nextToken_1_k 25 rfl) bp_59 ?_
        refine lv_icmp_ne (tgt := 142) hx hb (dc tbX4_nextToken_1_k 26 rfl) rfl (fun c23 => ?_) (fun c23 => ?_)
        · have hf := ite_f c23 hf
          refine lv_iconst (v := 1) hx hb (dc tbX4_nextToken_1_k 29 rfl) ic_1 ?_
          exact tX4_nextToken_b143 C hk0 (1 : Int32) M6 hf _ _ _ hI (lv_sub hl [0] rfl)
        · have hf := ite_t c23 hf
          refine lv_iconst (v := 4) hx hb (dc tbX4_nextToken_1_k 27 rfl) ic_4 ?_
          refine lv_goto (tgt := 143) hx hb (dc tbX4_nextToken_1_k 28 rfl) rfl ?_
          exact tX4_nextToken_b143 C hk0 (4 : Int32) M6 hf _ _ _ hI (lv_sub hl [0] rfl)
      · have hf := ite_f c20 hf
        refine lv_aload_n hx hb (dc tbX4_nextToken_1_k 16 rfl) rfl (lv_at hl 0 rfl) ?_
        obtain ⟨M30, r29, q28, hf⟩ := cal_s hf
        refine g_callVv hx hb hml hown hts hK hap hsx hI (tX4_takeNumber l hk0 q28 H.size) cv_X4_takeNumber q_t5_131 rfl rfl ⟨Nat.le_of_ble_eq_true rfl, Nat.le_of_ble_eq_true rfl⟩ hk0.1 (by simp) rfl rfl rfl hl.1 rfl (Nat.le_of_ble_eq_true rfl) (dc tbX4_nextToken_1_k 17 rfl) ⟨Nat.le_of_ble_eq_true rfl, Nat.le_of_ble_eq_true rfl⟩ (fun H locs hI => ?_)
        refine lv_goto (tgt := 156) hx hb (dc tbX4_nextToken_1_k 18 rfl) rfl ?_
        cases hf
        exact g_vret hx hb hr hlk hI (dc tbX4_nextToken_1_k 37 rfl)
    · have hf := ite_f c14 hf
      refine lv_aload_n hx hb (dc tbX4_nextToken_1_k 6 rfl) rfl (lv_at hl 0 rfl) ?_
      obtain ⟨M33, r32, q31, hf⟩ := cal_s hf
      refine g_callVv hx hb hml hown hts hK hap hsx hI (tX4_takeWord l hk0 q31 H.size) cv_X4_takeWord q_t5_124 rfl rfl ⟨Nat.le_of_ble_eq_true rfl, Nat.le_of_ble_eq_true rfl⟩ hk0.1 (by simp) rfl rfl rfl hl.1 rfl (Nat.le_of_ble_eq_true rfl) (dc tbX4_nextToken_1_k 7 rfl) ⟨Nat.le_of_ble_eq_true rfl, Nat.le_of_ble_eq_true rfl⟩ (fun H locs hI => ?_)
      refine lv_goto (tgt := 156) hx hb (dc tbX4_nextToken_1_k 8 rfl) rfl ?_
      cases hf
      exact g_vret hx hb hr hlk hI (dc tbX4_nextToken_1_k 37 rfl)
  · have hf := ite_f c8 hf
    refine lv_aload_n hx hb (dc tbX4_nextToken_0_k 35 rfl) rfl (lv_at hl 0 rfl) ?_
    refine lv_iconst (v := 0) hx hb (dc tbX4_nextToken_0_k 36 rfl) ic_0 ?_
    obtain ⟨M34, e35, hf⟩ := bnd_s hf
    refine gp4_6 hx hb hts hown hK hap hI hk0.1 q_t1_51 (dc tbX4_nextToken_0_k 37 rfl) e35 (fun H locs hI => ?_)
    refine lv_goto (tgt := 156) hx hb (dc tbX4_nextToken_0_k 38 rfl) rfl ?_
    cases hf
    exact g_vret hx hb hr hlk hI (dc tbX4_nextToken_1_k 37 rfl)
def mX4_nextToken_b8 (k0 : Nat) (ih8 : Mem → Option (Mem × Unit)) (M : Mem) : Option (Mem × Unit) := ite2 ((rd M k0 3) ≤ (rd M k0 4)) (mX4_nextToken_b47 k0 M) (chk (decide (rd M k0 2 = 1)) (chk (okb (rd M k0 4) 600) (cap (mX4_isSpace (rd M 1 ((rd M k0 4)).toNatClampNeg) M) (fun r39 => ite2 (r39 = 0) (mX4_nextToken_b47 k0 M) (bnd (wr M k0 4 ((rd M k0 4) + (1 : Int32))) (fun M42 => ih8 M42))))))
set_option maxHeartbeats 4000000 in
set_option maxRecDepth 100000 in
theorem tX4_nextToken_b8 {p : Program} {l : Launch} {e : Env} {s : State} {m : MethodId} {args : Array Value} {below : List Frame} {meth : Method} {c : Code} {G : GT} {kd : Nat → Nat × Nat} {ad : Nat → Nat} (C : Cx p s m args meth c cX4_nextToken 1 none RX4 G kd ad) {k0 : Nat} (hk0 : kReader kd k0) {MO : Mem} {vo : Unit} {ih8 : Mem → Option (Mem × Unit)} (hih8 : ∀  (M : Mem), ih8 M = some (MO, vo) → At p l e (rmO 2 0 0) s m args below meth c 0 0 (MQ below (Qg G kd ad s.heap.size MO none) args s 0 0 (AS kd ad s.heap.size)) G kd ad 1 8 [(0, .ref (ad k0))] [] M) : ∀  (M : Mem), mX4_nextToken_b8 k0 ih8 M = some (MO, vo) → At p l e (rmO 2 0 0) s m args below meth c 0 0 (MQ below (Qg G kd ad s.heap.size MO none) args s 0 0 (AS kd ad s.heap.size)) G kd ad 1 8 [(0, .ref (ad k0))] [] M := by
  intro M hf H locs ls hI hl
  obtain ⟨hx, hb, hml, hr, hown, hts, hlk, hK, hap, hsx⟩ := id C
  unfold mX4_nextToken_b8 at hf
  refine lv_aload_n hx hb (dc tbX4_nextToken_0_k 4 rfl) rfl (lv_at hl 0 rfl) ?_
  refine gg4_4 hx hb hts hown hK hI hk0.1 q_t1_49 (dc tbX4_nextToken_0_k 5 rfl) ?_
  refine lv_aload_n hx hb (dc tbX4_nextToken_0_k 6 rfl) rfl (lv_at hl 0 rfl) ?_
  refine gg4_3 hx hb hts hown hK hI hk0.1 q_t1_48 (dc tbX4_nextToken_0_k 7 rfl) ?_
  refine lv_icmp_ge (tgt := 47) hx hb (dc tbX4_nextToken_0_k 8 rfl) rfl (fun c3 => ?_) (fun c3 => ?_)
  · have hf := ite_t c3 hf
    exact tX4_nextToken_b47 C hk0 M hf _ _ _ hI (lv_sub hl [0] rfl)
  · have hf := ite_f c3 hf
    refine lv_aload_n hx hb (dc tbX4_nextToken_0_k 9 rfl) rfl (lv_at hl 0 rfl) ?_
    obtain ⟨h36, hf⟩ := chk_s hf
    refine gg4_2 hx hb hts hown hK hI hk0.1 q_t1_47 (dc tbX4_nextToken_0_k 10 rfl) ?_
    rw [byt_b h36]
    refine lv_aload_n hx hb (dc tbX4_nextToken_0_k 11 rfl) rfl (lv_at hl 0 rfl) ?_
    refine gg4_4 hx hb hts hown hK hI hk0.1 q_t1_49 (dc tbX4_nextToken_0_k 12 rfl) ?_
    obtain ⟨h37, hf⟩ := chk_s hf
    refine g_bald hx hb hK hI hk0.2.2 (okb_in h37) (dc tbX4_nextToken_0_k 13 rfl) ?_
    obtain ⟨r39, q38, hf⟩ := cap_s hf
    refine g_callSi hx hb hml hown hts hK hap hsx hI (tX4_isSpace l  q38 H.size) cs_X4_isSpace q_t5_118 rfl rfl ⟨Nat.le_of_ble_eq_true rfl, Nat.le_of_ble_eq_true rfl⟩ rfl hl.1 rfl (Nat.le_of_ble_eq_true rfl) (dc tbX4_nextToken_0_k 14 rfl) ⟨Nat.le_of_ble_eq_true rfl, Nat.le_of_ble_eq_true rfl⟩ (fun H locs hI => ?_)
    refine lv_if_eq (tgt := 47) hx hb (dc tbX4_nextToken_0_k 15 rfl) rfl (fun c41 => ?_) (fun c41 => ?_)
    · have hf := ite_t c41 hf
      exact tX4_nextToken_b47 C hk0 M hf _ _ _ hI (lv_sub hl [0] rfl)
    · have hf := ite_f c41 hf
      refine lv_aload_n hx hb (dc tbX4_nextToken_0_k 16 rfl) rfl (lv_at hl 0 rfl) ?_
      refine lv_dup hx hb (dc tbX4_nextToken_0_k 17 rfl) rfl ?_
      refine gg4_4 hx hb hts hown hK hI hk0.1 q_t1_49 (dc tbX4_nextToken_0_k 18 rfl) ?_
      refine lv_iconst (v := 1) hx hb (dc tbX4_nextToken_0_k 19 rfl) ic_1 ?_
      refine lv_iadd hx hb (dc tbX4_nextToken_0_k 20 rfl) ?_
      obtain ⟨M42, e43, hf⟩ := bnd_s hf
      refine gp4_4 hx hb hts hown hK hap hI hk0.1 q_t1_49 (dc tbX4_nextToken_0_k 21 rfl) e43 (fun H locs hI => ?_)
      refine lv_goto (tgt := 8) hx hb (dc tbX4_nextToken_0_k 22 rfl) rfl ?_
      exact hih8 M42 hf _ _ _ hI (lv_sub hl [0] rfl)
def mX4_nextToken_l8 (k0 : Nat) : Nat → Mem → Option (Mem × Unit)
  | 0 => fun  _ => none
  | n + 1 => mX4_nextToken_b8 k0 (mX4_nextToken_l8 k0 n)
theorem tX4_nextToken_l8 {p : Program} {l : Launch} {e : Env} {s : State} {m : MethodId} {args : Array Value} {below : List Frame} {meth : Method} {c : Code} {G : GT} {kd : Nat → Nat × Nat} {ad : Nat → Nat} (C : Cx p s m args meth c cX4_nextToken 1 none RX4 G kd ad) {k0 : Nat} (hk0 : kReader kd k0) {MO : Mem} {vo : Unit}   : ∀ (fuel : Nat)  (M : Mem), mX4_nextToken_l8 k0 fuel M = some (MO, vo) → At p l e (rmO 2 0 0) s m args below meth c 0 0 (MQ below (Qg G kd ad s.heap.size MO none) args s 0 0 (AS kd ad s.heap.size)) G kd ad 1 8 [(0, .ref (ad k0))] [] M := by
  intro fuel
  induction fuel with
  | zero => intro M hf; cases hf
  | succ n IH => exact tX4_nextToken_b8 C hk0 IH
def mX4_nextToken (k0 : Nat) (M : Mem) : Option (Mem × Unit) := bnd (wr M k0 4 (rd M k0 5)) (fun M1 => mX4_nextToken_l8 k0 5000 M1)
set_option maxHeartbeats 4000000 in
set_option maxRecDepth 100000 in
theorem tX4_nextToken (l : Launch) {G : GT} {kd : Nat → Nat × Nat} {ad : Nat → Nat} {k0 : Nat} (hk0 : kReader kd k0) {M : Mem} {MO : Mem} {vo : Unit} (hf : mX4_nextToken k0 M = some (MO, vo)) (n : Nat) : Met l yX4_nextToken (Cond.code yX4_nextToken cX4_nextToken 1 none :: WA) (rmO 2 0 0) (Pg G kd ad n [.ref (ad k0)] M) (Qg G kd ad n MO none) 0 0 (AS kd ad n) := by
  refine g_body (own := RX4) (by decide) rfl ?_ (Nat.le_of_ble_eq_true rfl)
  intro p e s m args below meth c C _ H locs ls hI hl
  obtain ⟨hx, hb, hml, hr, hown, hts, hlk, hK, hap, hsx⟩ := id C
  have hl : lv_has ls 1 [(0, .ref (ad k0))] := hl
  unfold mX4_nextToken at hf
  refine lv_aload_n hx hb (dc tbX4_nextToken_0_k 0 rfl) rfl (lv_at hl 0 rfl) ?_
  refine lv_aload_n hx hb (dc tbX4_nextToken_0_k 1 rfl) rfl (lv_at hl 0 rfl) ?_
  refine gg4_5 hx hb hts hown hK hI hk0.1 q_t1_50 (dc tbX4_nextToken_0_k 2 rfl) ?_
  obtain ⟨M1, e2, hf⟩ := bnd_s hf
  refine gp4_4 hx hb hts hown hK hap hI hk0.1 q_t1_49 (dc tbX4_nextToken_0_k 3 rfl) e2 (fun H locs hI => ?_)
  exact tX4_nextToken_l8 C hk0 5000 M1 hf _ _ _ hI (lv_sub hl [0] rfl)
theorem cv_X4_nextToken : cvF RX4 yX4_nextToken cX4_nextToken 1 none 0 := ⟨q_t5_116, q_s2_3, q_t1_2, q_t5_117, by decide +kernel⟩
def mX4_errorIfNot (k0 : Nat) (x1 : Int32) (x2 : Int32) (M : Mem) : Option Int32 := ite2 ((rd M k0 6) = (1 : Int32)) (some (1 : Int32)) (ite2 ((rd M k0 6) = x1) (some x2) (some (2 : Int32)))
set_option maxHeartbeats 4000000 in
set_option maxRecDepth 100000 in
theorem tX4_errorIfNot (l : Launch) {G : GT} {kd : Nat → Nat × Nat} {ad : Nat → Nat} {k0 : Nat} (hk0 : kReader kd k0) {x1 : Int32} {x2 : Int32} {M : Mem} {vo : Int32} (hf : mX4_errorIfNot k0 x1 x2 M = some vo) (n : Nat) : Met l yX4_errorIfNot (Cond.code yX4_errorIfNot cX4_errorIfNot 3 (some .int) :: WA) (rmO 0 0 0) (Pg G kd ad n [.ref (ad k0), .int x1, .int x2] M) (Qg G kd ad n M (some (.int vo))) 0 0 (AS kd ad n) := by
  refine g_body (own := RX4) (by decide) rfl ?_ (Nat.le_of_ble_eq_true rfl)
  intro p e s m args below meth c C _ H locs ls hI hl
  obtain ⟨hx, hb, hml, hr, hown, hts, hlk, hK, hap, hsx⟩ := id C
  have hl : lv_has ls 3 [(0, .ref (ad k0)), (1, .int x1), (2, .int x2)] := hl
  unfold mX4_errorIfNot at hf
  refine lv_aload_n hx hb (dc tbX4_errorIfNot_k 0 rfl) rfl (lv_at hl 0 rfl) ?_
  refine gg4_6 hx hb hts hown hK hI hk0.1 q_t1_51 (dc tbX4_errorIfNot_k 1 rfl) ?_
  refine lv_iconst (v := 1) hx hb (dc tbX4_errorIfNot_k 2 rfl) ic_1 ?_
  refine lv_icmp_ne (tgt := 10) hx hb (dc tbX4_errorIfNot_k 3 rfl) rfl (fun c1 => ?_) (fun c1 => ?_)
  · have hf := ite_f c1 hf
    refine lv_aload_n hx hb (dc tbX4_errorIfNot_k 6 rfl) rfl (lv_at hl 0 rfl) ?_
    refine gg4_6 hx hb hts hown hK hI hk0.1 q_t1_51 (dc tbX4_errorIfNot_k 7 rfl) ?_
    refine lv_iload_n hx hb (dc tbX4_errorIfNot_k 8 rfl) rfl (lv_at hl 1 rfl) ?_
    refine lv_icmp_eq (tgt := 22) hx hb (dc tbX4_errorIfNot_k 9 rfl) rfl (fun c2 => ?_) (fun c2 => ?_)
    · have hf := ite_t c2 hf
      refine lv_iload_n hx hb (dc tbX4_errorIfNot_k 12 rfl) rfl (lv_at hl 2 rfl) ?_
      cases hf
      exact g_iret hx hb hr hlk hI (dc tbX4_errorIfNot_k 13 rfl)
    · have hf := ite_f c2 hf
      refine lv_iconst (v := 2) hx hb (dc tbX4_errorIfNot_k 10 rfl) ic_2 ?_
      refine lv_goto (tgt := 23) hx hb (dc tbX4_errorIfNot_k 11 rfl) rfl ?_
      cases hf
      exact g_iret hx hb hr hlk hI (dc tbX4_errorIfNot_k 13 rfl)
  · have hf := ite_t c1 hf
    refine lv_iconst (v := 1) hx hb (dc tbX4_errorIfNot_k 4 rfl) ic_1 ?_
    cases hf
    exact g_iret hx hb hr hlk hI (dc tbX4_errorIfNot_k 5 rfl)
theorem cv_X4_errorIfNot : cvF RX4 yX4_errorIfNot cX4_errorIfNot 3 (some .int) 2 := ⟨q_t5_167, q_s2_8, q_t1_2, q_t5_168, by decide +kernel⟩
def mX4_errorOfWord_b106 (k0 : Nat) (k1 : Nat) (M : Mem) : Option Int32 := some (5 : Int32)
set_option maxHeartbeats 4000000 in
set_option maxRecDepth 100000 in
theorem tX4_errorOfWord_b106 {p : Program} {l : Launch} {e : Env} {s : State} {m : MethodId} {args : Array Value} {below : List Frame} {meth : Method} {c : Code} {G : GT} {kd : Nat → Nat × Nat} {ad : Nat → Nat} (C : Cx p s m args meth c cX4_errorOfWord 6 (some .int) RX4 G kd ad) {k0 : Nat} {k1 : Nat} (hk0 : k0 < 11) (hk1 : kPart kd k1) {M : Mem} {vo : Int32}   : mX4_errorOfWord_b106 k0 k1 M = some vo → At p l e (rmO 1 0 0) s m args below meth c 0 0 (MQ below (Qg G kd ad s.heap.size M (some (.int vo))) args s 0 0 (AS kd ad s.heap.size)) G kd ad 6 106 [] [] M := by
  intro hf H locs ls hI hl
  obtain ⟨hx, hb, hml, hr, hown, hts, hlk, hK, hap, hsx⟩ := id C
  unfold mX4_errorOfWord_b106 at hf
  refine lv_iconst (v := 5) hx hb (dc tbX4_errorOfWord_1_k 12 rfl) ic_5 ?_
  refine lv_goto (tgt := 111) hx hb (dc tbX4_errorOfWord_1_k 13 rfl) rfl ?_
  cases hf
  exact g_iret hx hb hr hlk hI (dc tbX4_errorOfWord_1_k 15 rfl)
def mX4_errorOfWord_b94 (k0 : Nat) (k1 : Nat) (M : Mem) (x4 : Int32) (y0 : Int32) : Option Int32 := ite2 (x4 = 0) (ite2 (y0 = 0) (some (0 : Int32)) (mX4_errorOfWord_b106 k0 k1 M)) (mX4_errorOfWord_b106 k0 k1 M)
set_option maxHeartbeats 4000000 in
set_option maxRecDepth 100000 in
theorem tX4_errorOfWord_b94 {p : Program} {l : Launch} {e : Env} {s : State} {m : MethodId} {args : Array Value} {below : List Frame} {meth : Method} {c : Code} {G : GT} {kd : Nat → Nat × Nat} {ad : Nat → Nat} (C : Cx p s m args meth c cX4_errorOfWord 6 (some .int) RX4 G kd ad) {k0 : Nat} {k1 : Nat} (hk0 : k0 < 11) (hk1 : kPart kd k1) {M : Mem} {vo : Int32}   : ∀ (x4 : Int32) (y0 : Int32), mX4_errorOfWord_b94 k0 k1 M x4 y0 = some vo → At p l e (rmO 1 0 0) s m args below meth c 0 0 (MQ below (Qg G kd ad s.heap.size M (some (.int vo))) args s 0 0 (AS kd ad s.heap.size)) G kd ad 6 94 [(4, .int x4)] [.int y0] M := by
  intro x4 y0 hf H locs ls hI hl
  obtain ⟨hx, hb, hml, hr, hown, hts, hlk, hK, hap, hsx⟩ := id C
  unfold mX4_errorOfWord_b94 at hf
  refine lv_istore (lv' := [(5, .int y0), (4, .int x4)]) hx hb (dc tbX4_errorOfWord_1_k 7 rfl) hl (by decide) rfl (fun ls hl => ?_)
  refine lv_iload hx hb (dc tbX4_errorOfWord_1_k 8 rfl) (lv_at hl 1 rfl) ?_
  refine lv_if_ne (tgt := 106) hx hb (dc tbX4_errorOfWord_1_k 9 rfl) rfl (fun c13 => ?_) (fun c13 => ?_)
  · have hf := ite_f c13 hf
    exact tX4_errorOfWord_b106 C hk0 hk1 hf _ _ _ hI (lv_sub hl [] rfl)
  · have hf := ite_t c13 hf
    refine lv_iload hx hb (dc tbX4_errorOfWord_1_k 10 rfl) (lv_at hl 0 rfl) ?_
    refine lv_if_eq (tgt := 110) hx hb (dc tbX4_errorOfWord_1_k 11 rfl) rfl (fun c14 => ?_) (fun c14 => ?_)
    · have hf := ite_t c14 hf
      refine lv_iconst (v := 0) hx hb (dc tbX4_errorOfWord_1_k 14 rfl) ic_0 ?_
      cases hf
      exact g_iret hx hb hr hlk hI (dc tbX4_errorOfWord_1_k 15 rfl)
    · have hf := ite_f c14 hf
      exact tX4_errorOfWord_b106 C hk0 hk1 hf _ _ _ hI (lv_sub hl [] rfl)
def mX4_errorOfWord_b93 (k0 : Nat) (k1 : Nat) (M : Mem) (x4 : Int32) : Option Int32 := mX4_errorOfWord_b94 k0 k1 M x4 (0 : Int32)
set_option maxHeartbeats 4000000 in
set_option maxRecDepth 100000 in
theorem tX4_errorOfWord_b93 {p : Program} {l : Launch} {e : Env} {s : State} {m : MethodId} {args : Array Value} {below : List Frame} {meth : Method} {c : Code} {G : GT} {kd : Nat → Nat × Nat} {ad : Nat → Nat} (C : Cx p s m args meth c cX4_errorOfWord 6 (some .int) RX4 G kd ad) {k0 : Nat} {k1 : Nat} (hk0 : k0 < 11) (hk1 : kPart kd k1) {M : Mem} {vo : Int32}   : ∀ (x4 : Int32), mX4_errorOfWord_b93 k0 k1 M x4 = some vo → At p l e (rmO 1 0 0) s m args below meth c 0 0 (MQ below (Qg G kd ad s.heap.size M (some (.int vo))) args s 0 0 (AS kd ad s.heap.size)) G kd ad 6 93 [(4, .int x4)] [] M := by
  intro x4 hf H locs ls hI hl
  obtain ⟨hx, hb, hml, hr, hown, hts, hlk, hK, hap, hsx⟩ := id C
  unfold mX4_errorOfWord_b93 at hf
  refine lv_iconst (v := 0) hx hb (dc tbX4_errorOfWord_1_k 6 rfl) ic_0 ?_
  exact tX4_errorOfWord_b94 C hk0 hk1 x4 (0 : Int32) hf _ _ _ hI (lv_sub hl [0] rfl)
def mX4_errorOfWord_b71 (k0 : Nat) (k1 : Nat) (M : Mem) (y0 : Int32) : Option Int32 := ite2 (k0 = 4) (ite2 ((rd M k1 10) < (8 : Int32)) (mX4_errorOfWord_b93 k0 k1 M y0) (mX4_errorOfWord_b94 k0 k1 M y0 (1 : Int32))) (mX4_errorOfWord_b93 k0 k1 M y0)
set_option maxHeartbeats 4000000 in
set_option maxRecDepth 100000 in
theorem tX4_errorOfWord_b71 {p : Program} {l : Launch} {e : Env} {s : State} {m : MethodId} {args : Array Value} {below : List Frame} {meth : Method} {c : Code} {G : GT} {kd : Nat → Nat × Nat} {ad : Nat → Nat} (C : Cx p s m args meth c cX4_errorOfWord 6 (some .int) RX4 G kd ad) {k0 : Nat} {k1 : Nat} (hk0 : k0 < 11) (hk1 : kPart kd k1) {M : Mem} {vo : Int32}   : ∀ (y0 : Int32), mX4_errorOfWord_b71 k0 k1 M y0 = some vo → At p l e (rmO 1 0 0) s m args below meth c 0 0 (MQ below (Qg G kd ad s.heap.size M (some (.int vo))) args s 0 0 (AS kd ad s.heap.size)) G kd ad 6 71 [(0, .ref (G.2.2 k0)), (1, .ref (ad k1))] [.int y0] M := by
  intro y0 hf H locs ls hI hl
  obtain ⟨hx, hb, hml, hr, hown, hts, hlk, hK, hap, hsx⟩ := id C
  unfold mX4_errorOfWord_b71 at hf
  refine lv_istore (lv' := [(4, .int y0), (0, .ref (G.2.2 k0)), (1, .ref (ad k1))]) hx hb (dc tbX4_errorOfWord_0_k 36 rfl) hl (by decide) rfl (fun ls hl => ?_)
  refine lv_aload_n hx hb (dc tbX4_errorOfWord_0_k 37 rfl) rfl (lv_at hl 1 rfl) ?_
  refine g_gsW 4 (by decide) hx hb hown hts hsx hI q_t5_183 (dc tbX4_errorOfWord_0_k 38 rfl) ?_
  refine g_wne (tgt := 93) hx hb hsx hk0 (by decide) (dc tbX4_errorOfWord_0_k 39 rfl) rfl (fun c12 => ?_) (fun c12 => ?_)
  · have hf := ite_f c12 hf
    exact tX4_errorOfWord_b93 C hk0 hk1 y0 hf _ _ _ hI (lv_sub hl [0] rfl)
  · have hf := ite_t c12 hf
    refine lv_aload_n hx hb (dc tbX4_errorOfWord_1_k 0 rfl) rfl (lv_at hl 2 rfl) ?_
    refine gg1_10 hx hb hts hown hK hI hk1.1 q_t1_123 (dc tbX4_errorOfWord_1_k 1 rfl) ?_
    refine lv_bipush (v := 8) hx hb (dc tbX4_errorOfWord_1_k 2 rfl) bp_8 ?_
    refine lv_icmp_lt (tgt := 93) hx hb (dc tbX4_errorOfWord_1_k 3 rfl) rfl (fun c15 => ?_) (fun c15 => ?_)
    · have hf := ite_t c15 hf
      exact tX4_errorOfWord_b93 C hk0 hk1 y0 hf _ _ _ hI (lv_sub hl [0] rfl)
    · have hf := ite_f c15 hf
      refine lv_iconst (v := 1) hx hb (dc tbX4_errorOfWord_1_k 4 rfl) ic_1 ?_
      refine lv_goto (tgt := 94) hx hb (dc tbX4_errorOfWord_1_k 5 rfl) rfl ?_
      exact tX4_errorOfWord_b94 C hk0 hk1 y0 (1 : Int32) hf _ _ _ hI (lv_sub hl [0] rfl)
def mX4_errorOfWord_b70 (k0 : Nat) (k1 : Nat) (M : Mem) : Option Int32 := mX4_errorOfWord_b71 k0 k1 M (0 : Int32)
set_option maxHeartbeats 4000000 in
set_option maxRecDepth 100000 in
theorem tX4_errorOfWord_b70 {p : Program} {l : Launch} {e : Env} {s : State} {m : MethodId} {args : Array Value} {below : List Frame} {meth : Method} {c : Code} {G : GT} {kd : Nat → Nat × Nat} {ad : Nat → Nat} (C : Cx p s m args meth c cX4_errorOfWord 6 (some .int) RX4 G kd ad) {k0 : Nat} {k1 : Nat} (hk0 : k0 < 11) (hk1 : kPart kd k1) {M : Mem} {vo : Int32}   : mX4_errorOfWord_b70 k0 k1 M = some vo → At p l e (rmO 1 0 0) s m args below meth c 0 0 (MQ below (Qg G kd ad s.heap.size M (some (.int vo))) args s 0 0 (AS kd ad s.heap.size)) G kd ad 6 70 [(0, .ref (G.2.2 k0)), (1, .ref (ad k1))] [] M := by
  intro hf H locs ls hI hl
  obtain ⟨hx, hb, hml, hr, hown, hts, hlk, hK, hap, hsx⟩ := id C
  unfold mX4_errorOfWord_b70 at hf
  refine lv_iconst (v := 0) hx hb (dc tbX4_errorOfWord_0_k 35 rfl) ic_0 ?_
  exact tX4_errorOfWord_b71 C hk0 hk1 (0 : Int32) hf _ _ _ hI (lv_sub hl [0, 1] rfl)
def mX4_errorOfWord_b39 (k0 : Nat) (k1 : Nat) (M : Mem) (x2 : Int32) (y0 : Int32) : Option Int32 := ite2 (x2 = 0) (ite2 (y0 = 0) (cap (mX5_isBend k0 M) (fun r9 => ite2 (r9 = 0) (mX4_errorOfWord_b70 k0 k1 M) (cap (mX1_bendCount k1 M) (fun r17 => ite2 (r17 < (8 : Int32)) (mX4_errorOfWord_b70 k0 k1 M) (mX4_errorOfWord_b71 k0 k1 M (1 : Int32)))))) (some (4 : Int32))) (some (4 : Int32))
set_option maxHeartbeats 4000000 in
set_option maxRecDepth 100000 in
theorem tX4_errorOfWord_b39 {p : Program} {l : Launch} {e : Env} {s : State} {m : MethodId} {args : Array Value} {below : List Frame} {meth : Method} {c : Code} {G : GT} {kd : Nat → Nat × Nat} {ad : Nat → Nat} (C : Cx p s m args meth c cX4_errorOfWord 6 (some .int) RX4 G kd ad) {k0 : Nat} {k1 : Nat} (hk0 : k0 < 11) (hk1 : kPart kd k1) {M : Mem} {vo : Int32}   : ∀ (x2 : Int32) (y0 : Int32), mX4_errorOfWord_b39 k0 k1 M x2 y0 = some vo → At p l e (rmO 1 0 0) s m args below meth c 0 0 (MQ below (Qg G kd ad s.heap.size M (some (.int vo))) args s 0 0 (AS kd ad s.heap.size)) G kd ad 6 39 [(0, .ref (G.2.2 k0)), (1, .ref (ad k1)), (2, .int x2)] [.int y0] M := by
  intro x2 y0 hf H locs ls hI hl
  obtain ⟨hx, hb, hml, hr, hown, hts, hlk, hK, hap, hsx⟩ := id C
  unfold mX4_errorOfWord_b39 at hf
  refine lv_istore_n (lv' := [(3, .int y0), (0, .ref (G.2.2 k0)), (1, .ref (ad k1)), (2, .int x2)]) hx hb (dc tbX4_errorOfWord_0_k 19 rfl) rfl hl (by decide) rfl (fun ls hl => ?_)
  refine lv_iload_n hx hb (dc tbX4_errorOfWord_0_k 20 rfl) rfl (lv_at hl 3 rfl) ?_
  refine lv_if_ne (tgt := 48) hx hb (dc tbX4_errorOfWord_0_k 21 rfl) rfl (fun c6 => ?_) (fun c6 => ?_)
  · have hf := ite_f c6 hf
    refine lv_iconst (v := 4) hx hb (dc tbX4_errorOfWord_0_k 24 rfl) ic_4 ?_
    cases hf
    exact g_iret hx hb hr hlk hI (dc tbX4_errorOfWord_0_k 25 rfl)
  · have hf := ite_t c6 hf
    refine lv_iload_n hx hb (dc tbX4_errorOfWord_0_k 22 rfl) rfl (lv_at hl 0 rfl) ?_
    refine lv_if_eq (tgt := 50) hx hb (dc tbX4_errorOfWord_0_k 23 rfl) rfl (fun c7 => ?_) (fun c7 => ?_)
    · have hf := ite_t c7 hf
      refine lv_aload_n hx hb (dc tbX4_errorOfWord_0_k 26 rfl) rfl (lv_at hl 1 rfl) ?_
      obtain ⟨r9, q8, hf⟩ := cap_s hf
      refine g_callWi hx hb hml hown hts hK hap hsx hI (tX5_isBend l hk0 q8 H.size) cv_X5_isBend q_t5_174 rfl rfl ⟨Nat.le_of_ble_eq_true rfl, Nat.le_of_ble_eq_true rfl⟩ hk0 rfl hl.1 rfl (Nat.le_of_ble_eq_true rfl) (dc tbX4_errorOfWord_0_k 27 rfl) ⟨Nat.le_of_ble_eq_true rfl, Nat.le_of_ble_eq_true rfl⟩ (fun H locs hI => ?_)
      refine lv_if_eq (tgt := 70) hx hb (dc tbX4_errorOfWord_0_k 28 rfl) rfl (fun c11 => ?_) (fun c11 => ?_)
      · have hf := ite_t c11 hf
        exact tX4_errorOfWord_b70 C hk0 hk1 hf _ _ _ hI (lv_sub hl [1, 2] rfl)
      · have hf := ite_f c11 hf
        refine lv_aload_n hx hb (dc tbX4_errorOfWord_0_k 29 rfl) rfl (lv_at hl 2 rfl) ?_
        obtain ⟨r17, q16, hf⟩ := cap_s hf
        refine g_callVi hx hb hml hown hts hK hap hsx hI (tX1_bendCount l hk1 q16 H.size) cv_X1_bendCount q_t5_182 rfl rfl ⟨Nat.le_of_ble_eq_true rfl, Nat.le_of_ble_eq_true rfl⟩ hk1.1 (by simp) rfl rfl rfl hl.1 rfl (Nat.le_of_ble_eq_true rfl) (dc tbX4_errorOfWord_0_k 30 rfl) ⟨Nat.le_of_ble_eq_true rfl, Nat.le_of_ble_eq_true rfl⟩ (fun H locs hI => ?_)
        refine lv_bipush (v := 8) hx hb (dc tbX4_errorOfWord_0_k 31 rfl) bp_8 ?_
        refine lv_icmp_lt (tgt := 70) hx hb (dc tbX4_errorOfWord_0_k 32 rfl) rfl (fun c19 => ?_) (fun c19 => ?_)
        · have hf := ite_t c19 hf
          exact tX4_errorOfWord_b70 C hk0 hk1 hf _ _ _ hI (lv_sub hl [1, 2] rfl)
        · have hf := ite_f c19 hf
          refine lv_iconst (v := 1) hx hb (dc tbX4_errorOfWord_0_k 33 rfl) ic_1 ?_
          refine lv_goto (tgt := 71) hx hb (dc tbX4_errorOfWord_0_k 34 rfl) rfl ?_
          exact tX4_errorOfWord_b71 C hk0 hk1 (1 : Int32) hf _ _ _ hI (lv_sub hl [1, 2] rfl)
    · have hf := ite_f c7 hf
      refine lv_iconst (v := 4) hx hb (dc tbX4_errorOfWord_0_k 24 rfl) ic_4 ?_
      cases hf
      exact g_iret hx hb hr hlk hI (dc tbX4_errorOfWord_0_k 25 rfl)
def mX4_errorOfWord_b38 (k0 : Nat) (k1 : Nat) (M : Mem) (x2 : Int32) : Option Int32 := mX4_errorOfWord_b39 k0 k1 M x2 (0 : Int32)
set_option maxHeartbeats 4000000 in
set_option maxRecDepth 100000 in
theorem tX4_errorOfWord_b38 {p : Program} {l : Launch} {e : Env} {s : State} {m : MethodId} {args : Array Value} {below : List Frame} {meth : Method} {c : Code} {G : GT} {kd : Nat → Nat × Nat} {ad : Nat → Nat} (C : Cx p s m args meth c cX4_errorOfWord 6 (some .int) RX4 G kd ad) {k0 : Nat} {k1 : Nat} (hk0 : k0 < 11) (hk1 : kPart kd k1) {M : Mem} {vo : Int32}   : ∀ (x2 : Int32), mX4_errorOfWord_b38 k0 k1 M x2 = some vo → At p l e (rmO 1 0 0) s m args below meth c 0 0 (MQ below (Qg G kd ad s.heap.size M (some (.int vo))) args s 0 0 (AS kd ad s.heap.size)) G kd ad 6 38 [(0, .ref (G.2.2 k0)), (1, .ref (ad k1)), (2, .int x2)] [] M := by
  intro x2 hf H locs ls hI hl
  obtain ⟨hx, hb, hml, hr, hown, hts, hlk, hK, hap, hsx⟩ := id C
  unfold mX4_errorOfWord_b38 at hf
  refine lv_iconst (v := 0) hx hb (dc tbX4_errorOfWord_0_k 18 rfl) ic_0 ?_
  exact tX4_errorOfWord_b39 C hk0 hk1 x2 (0 : Int32) hf _ _ _ hI (lv_sub hl [0, 1, 2] rfl)
def mX4_errorOfWord_b19 (k0 : Nat) (k1 : Nat) (M : Mem) (y0 : Int32) : Option Int32 := cap (mX5_isBend k0 M) (fun r3 => ite2 (r3 = 0) (mX4_errorOfWord_b38 k0 k1 M y0) (ite2 ((rd M k1 0) = 0) (mX4_errorOfWord_b39 k0 k1 M y0 (1 : Int32)) (mX4_errorOfWord_b38 k0 k1 M y0)))
set_option maxHeartbeats 4000000 in
set_option maxRecDepth 100000 in
theorem tX4_errorOfWord_b19 {p : Program} {l : Launch} {e : Env} {s : State} {m : MethodId} {args : Array Value} {below : List Frame} {meth : Method} {c : Code} {G : GT} {kd : Nat → Nat × Nat} {ad : Nat → Nat} (C : Cx p s m args meth c cX4_errorOfWord 6 (some .int) RX4 G kd ad) {k0 : Nat} {k1 : Nat} (hk0 : k0 < 11) (hk1 : kPart kd k1) {M : Mem} {vo : Int32}   : ∀ (y0 : Int32), mX4_errorOfWord_b19 k0 k1 M y0 = some vo → At p l e (rmO 1 0 0) s m args below meth c 0 0 (MQ below (Qg G kd ad s.heap.size M (some (.int vo))) args s 0 0 (AS kd ad s.heap.size)) G kd ad 6 19 [(0, .ref (G.2.2 k0)), (1, .ref (ad k1))] [.int y0] M := by
  intro y0 hf H locs ls hI hl
  obtain ⟨hx, hb, hml, hr, hown, hts, hlk, hK, hap, hsx⟩ := id C
  unfold mX4_errorOfWord_b19 at hf
  refine lv_istore_n (lv' := [(2, .int y0), (0, .ref (G.2.2 k0)), (1, .ref (ad k1))]) hx hb (dc tbX4_errorOfWord_0_k 9 rfl) rfl hl (by decide) rfl (fun ls hl => ?_)
  refine lv_aload_n hx hb (dc tbX4_errorOfWord_0_k 10 rfl) rfl (lv_at hl 1 rfl) ?_
  obtain ⟨r3, q2, hf⟩ := cap_s hf
  refine g_callWi hx hb hml hown hts hK hap hsx hI (tX5_isBend l hk0 q2 H.size) cv_X5_isBend q_t5_174 rfl rfl ⟨Nat.le_of_ble_eq_true rfl, Nat.le_of_ble_eq_true rfl⟩ hk0 rfl hl.1 rfl (Nat.le_of_ble_eq_true rfl) (dc tbX4_errorOfWord_0_k 11 rfl) ⟨Nat.le_of_ble_eq_true rfl, Nat.le_of_ble_eq_true rfl⟩ (fun H locs hI => ?_)
  refine lv_if_eq (tgt := 38) hx hb (dc tbX4_errorOfWord_0_k 12 rfl) rfl (fun c5 => ?_) (fun c5 => ?_)
  · have hf := ite_t c5 hf
    exact tX4_errorOfWord_b38 C hk0 hk1 y0 hf _ _ _ hI (lv_sub hl [1, 2, 0] rfl)
  · have hf := ite_f c5 hf
    refine lv_aload_n hx hb (dc tbX4_errorOfWord_0_k 13 rfl) rfl (lv_at hl 2 rfl) ?_
    refine gg1_0 hx hb hts hown hK hI hk1.1 q_t1_103 (dc tbX4_errorOfWord_0_k 14 rfl) ?_
    refine lv_if_ne (tgt := 38) hx hb (dc tbX4_errorOfWord_0_k 15 rfl) rfl (fun c20 => ?_) (fun c20 => ?_)
    · have hf := ite_f c20 hf
      exact tX4_errorOfWord_b38 C hk0 hk1 y0 hf _ _ _ hI (lv_sub hl [1, 2, 0] rfl)
    · have hf := ite_t c20 hf
      refine lv_iconst (v := 1) hx hb (dc tbX4_errorOfWord_0_k 16 rfl) ic_1 ?_
      refine lv_goto (tgt := 39) hx hb (dc tbX4_errorOfWord_0_k 17 rfl) rfl ?_
      exact tX4_errorOfWord_b39 C hk0 hk1 y0 (1 : Int32) hf _ _ _ hI (lv_sub hl [1, 2, 0] rfl)
def mX4_errorOfWord_b18 (k0 : Nat) (k1 : Nat) (M : Mem) : Option Int32 := mX4_errorOfWord_b19 k0 k1 M (0 : Int32)
set_option maxHeartbeats 4000000 in
set_option maxRecDepth 100000 in
theorem tX4_errorOfWord_b18 {p : Program} {l : Launch} {e : Env} {s : State} {m : MethodId} {args : Array Value} {below : List Frame} {meth : Method} {c : Code} {G : GT} {kd : Nat → Nat × Nat} {ad : Nat → Nat} (C : Cx p s m args meth c cX4_errorOfWord 6 (some .int) RX4 G kd ad) {k0 : Nat} {k1 : Nat} (hk0 : k0 < 11) (hk1 : kPart kd k1) {M : Mem} {vo : Int32}   : mX4_errorOfWord_b18 k0 k1 M = some vo → At p l e (rmO 1 0 0) s m args below meth c 0 0 (MQ below (Qg G kd ad s.heap.size M (some (.int vo))) args s 0 0 (AS kd ad s.heap.size)) G kd ad 6 18 [(0, .ref (G.2.2 k0)), (1, .ref (ad k1))] [] M := by
  intro hf H locs ls hI hl
  obtain ⟨hx, hb, hml, hr, hown, hts, hlk, hK, hap, hsx⟩ := id C
  unfold mX4_errorOfWord_b18 at hf
  refine lv_iconst (v := 0) hx hb (dc tbX4_errorOfWord_0_k 8 rfl) ic_0 ?_
  exact tX4_errorOfWord_b19 C hk0 hk1 (0 : Int32) hf _ _ _ hI (lv_sub hl [0, 1] rfl)
def mX4_errorOfWord (k0 : Nat) (k1 : Nat) (M : Mem) : Option Int32 := ite2 (k0 = 1) (ite2 ((rd M k1 0) ≤ 0) (mX4_errorOfWord_b18 k0 k1 M) (mX4_errorOfWord_b19 k0 k1 M (1 : Int32))) (mX4_errorOfWord_b18 k0 k1 M)
set_option maxHeartbeats 4000000 in
set_option maxRecDepth 100000 in
theorem tX4_errorOfWord (l : Launch) {G : GT} {kd : Nat → Nat × Nat} {ad : Nat → Nat} {k0 : Nat} {k1 : Nat} (hk0 : k0 < 11) (hk1 : kPart kd k1) {M : Mem} {vo : Int32} (hf : mX4_errorOfWord k0 k1 M = some vo) (n : Nat) : Met l yX4_errorOfWord (Cond.code yX4_errorOfWord cX4_errorOfWord 6 (some .int) :: WA) (rmO 1 0 0) (Pg G kd ad n [.ref (G.2.2 k0), .ref (ad k1)] M) (Qg G kd ad n M (some (.int vo))) 0 0 (AS kd ad n) := by
  refine g_body (own := RX4) (by decide) rfl ?_ (Nat.le_of_ble_eq_true rfl)
  intro p e s m args below meth c C _ H locs ls hI hl
  obtain ⟨hx, hb, hml, hr, hown, hts, hlk, hK, hap, hsx⟩ := id C
  have hl : lv_has ls 6 [(0, .ref (G.2.2 k0)), (1, .ref (ad k1))] := hl
  unfold mX4_errorOfWord at hf
  refine lv_aload_n hx hb (dc tbX4_errorOfWord_0_k 0 rfl) rfl (lv_at hl 0 rfl) ?_
  refine g_gsW 1 (by decide) hx hb hown hts hsx hI q_t5_172 (dc tbX4_errorOfWord_0_k 1 rfl) ?_
  refine g_wne (tgt := 18) hx hb hsx hk0 (by decide) (dc tbX4_errorOfWord_0_k 2 rfl) rfl (fun c1 => ?_) (fun c1 => ?_)
  · have hf := ite_f c1 hf
    exact tX4_errorOfWord_b18 C hk0 hk1 hf _ _ _ hI (lv_sub hl [0, 1] rfl)
  · have hf := ite_t c1 hf
    refine lv_aload_n hx hb (dc tbX4_errorOfWord_0_k 3 rfl) rfl (lv_at hl 1 rfl) ?_
    refine gg1_0 hx hb hts hown hK hI hk1.1 q_t1_103 (dc tbX4_errorOfWord_0_k 4 rfl) ?_
    refine lv_if_le (tgt := 18) hx hb (dc tbX4_errorOfWord_0_k 5 rfl) rfl (fun c21 => ?_) (fun c21 => ?_)
    · have hf := ite_t c21 hf
      exact tX4_errorOfWord_b18 C hk0 hk1 hf _ _ _ hI (lv_sub hl [0, 1] rfl)
    · have hf := ite_f c21 hf
      refine lv_iconst (v := 1) hx hb (dc tbX4_errorOfWord_0_k 6 rfl) ic_1 ?_
      refine lv_goto (tgt := 19) hx hb (dc tbX4_errorOfWord_0_k 7 rfl) rfl ?_
      exact tX4_errorOfWord_b19 C hk0 hk1 (1 : Int32) hf _ _ _ hI (lv_sub hl [0, 1] rfl)
theorem cs_X4_errorOfWord : csF yX4_errorOfWord cX4_errorOfWord 6 (some .int) 2 := ⟨q_t5_170, q_t1_2, q_t5_171, by decide +kernel⟩
def mX4_errorOfNumber_b74 (k0 : Nat) (k1 : Nat) (k2 : Nat) (M : Mem) (x5 : Int32) : Option Int32 := ite2 (x5 = 0) (some (3 : Int32)) (some (0 : Int32))
set_option maxHeartbeats 4000000 in
set_option maxRecDepth 100000 in
theorem tX4_errorOfNumber_b74 {p : Program} {l : Launch} {e : Env} {s : State} {m : MethodId} {args : Array Value} {below : List Frame} {meth : Method} {c : Code} {G : GT} {kd : Nat → Nat × Nat} {ad : Nat → Nat} (C : Cx p s m args meth c cX4_errorOfNumber 6 (some .int) RX4 G kd ad) {k0 : Nat} {k1 : Nat} {k2 : Nat} (hk0 : kReader kd k0) (hk1 : k1 < 11) (hk2 : kPart kd k2) {M : Mem} {vo : Int32}   : ∀ (x5 : Int32), mX4_errorOfNumber_b74 k0 k1 k2 M x5 = some vo → At p l e (rmO 2 0 0) s m args below meth c 0 0 (MQ below (Qg G kd ad s.heap.size M (some (.int vo))) args s 0 0 (AS kd ad s.heap.size)) G kd ad 6 74 [(5, .int x5)] [] M := by
  intro x5 hf H locs ls hI hl
  obtain ⟨hx, hb, hml, hr, hown, hts, hlk, hK, hap, hsx⟩ := id C
  unfold mX4_errorOfNumber_b74 at hf
  refine lv_iload hx hb (dc tbX4_errorOfNumber_0_k 39 rfl) (lv_at hl 0 rfl) ?_
  refine lv_if_eq (tgt := 83) hx hb (dc tbX4_errorOfNumber_1_k 0 rfl) rfl (fun c11 => ?_) (fun c11 => ?_)
  · have hf := ite_t c11 hf
    refine lv_iconst (v := 3) hx hb (dc tbX4_errorOfNumber_1_k 3 rfl) ic_3 ?_
    cases hf
    exact g_iret hx hb hr hlk hI (dc tbX4_errorOfNumber_1_k 4 rfl)
  · have hf := ite_f c11 hf
    refine lv_iconst (v := 0) hx hb (dc tbX4_errorOfNumber_1_k 1 rfl) ic_0 ?_
    refine lv_goto (tgt := 84) hx hb (dc tbX4_errorOfNumber_1_k 2 rfl) rfl ?_
    cases hf
    exact g_iret hx hb hr hlk hI (dc tbX4_errorOfNumber_1_k 4 rfl)
def mX4_errorOfNumber_b47 (k0 : Nat) (k1 : Nat) (k2 : Nat) (M : Mem) (x2 : Int32) (y0 : Int32) : Option Int32 := ite2 (k1 = 4) (ite2 (x2 = 0) (cap (mX1_lastBackRatio k2 M) (fun r14 => ite2 (r14 < (rd M k0 7)) (mX4_errorOfNumber_b74 k0 k1 k2 M y0) (mX4_errorOfNumber_b74 k0 k1 k2 M (0 : Int32)))) (mX4_errorOfNumber_b74 k0 k1 k2 M y0)) (mX4_errorOfNumber_b74 k0 k1 k2 M y0)
set_option maxHeartbeats 4000000 in
set_option maxRecDepth 100000 in
theorem tX4_errorOfNumber_b47 {p : Program} {l : Launch} {e : Env} {s : State} {m : MethodId} {args : Array Value} {below : List Frame} {meth : Method} {c : Code} {G : GT} {kd : Nat → Nat × Nat} {ad : Nat → Nat} (C : Cx p s m args meth c cX4_errorOfNumber 6 (some .int) RX4 G kd ad) {k0 : Nat} {k1 : Nat} {k2 : Nat} (hk0 : kReader kd k0) (hk1 : k1 < 11) (hk2 : kPart kd k2) {M : Mem} {vo : Int32}   : ∀ (x2 : Int32) (y0 : Int32), mX4_errorOfNumber_b47 k0 k1 k2 M x2 y0 = some vo → At p l e (rmO 2 0 0) s m args below meth c 0 0 (MQ below (Qg G kd ad s.heap.size M (some (.int vo))) args s 0 0 (AS kd ad s.heap.size)) G kd ad 6 47 [(0, .ref (ad k0)), (1, .ref (G.2.2 k1)), (2, .int x2), (3, .ref (ad k2))] [.int y0] M := by
  intro x2 y0 hf H locs ls hI hl
  obtain ⟨hx, hb, hml, hr, hown, hts, hlk, hK, hap, hsx⟩ := id C
  unfold mX4_errorOfNumber_b47 at hf
  refine lv_istore (lv' := [(5, .int y0), (0, .ref (ad k0)), (1, .ref (G.2.2 k1)), (2, .int x2), (3, .ref (ad k2))]) hx hb (dc tbX4_errorOfNumber_0_k 26 rfl) hl (by decide) rfl (fun ls hl => ?_)
  refine lv_aload_n hx hb (dc tbX4_errorOfNumber_0_k 27 rfl) rfl (lv_at hl 2 rfl) ?_
  refine g_gsW 4 (by decide) hx hb hown hts hsx hI q_t5_183 (dc tbX4_errorOfNumber_0_k 28 rfl) ?_
  refine g_wne (tgt := 74) hx hb hsx hk1 (by decide) (dc tbX4_errorOfNumber_0_k 29 rfl) rfl (fun c10 => ?_) (fun c10 => ?_)
  · have hf := ite_f c10 hf
    exact tX4_errorOfNumber_b74 C hk0 hk1 hk2 y0 hf _ _ _ hI (lv_sub hl [0] rfl)
  · have hf := ite_t c10 hf
    refine lv_iload_n hx hb (dc tbX4_errorOfNumber_0_k 30 rfl) rfl (lv_at hl 3 rfl) ?_
    refine lv_if_ne (tgt := 74) hx hb (dc tbX4_errorOfNumber_0_k 31 rfl) rfl (fun c12 => ?_) (fun c12 => ?_)
    · have hf := ite_f c12 hf
      exact tX4_errorOfNumber_b74 C hk0 hk1 hk2 y0 hf _ _ _ hI (lv_sub hl [0] rfl)
    · have hf := ite_t c12 hf
      refine lv_aload_n hx hb (dc tbX4_errorOfNumber_0_k 32 rfl) rfl (lv_at hl 1 rfl) ?_
      refine gg4_7 hx hb hts hown hK hI hk0.1 q_t1_52 (dc tbX4_errorOfNumber_0_k 33 rfl) ?_
      refine lv_aload_n hx hb (dc tbX4_errorOfNumber_0_k 34 rfl) rfl (lv_at hl 4 rfl) ?_
      obtain ⟨r14, q13, hf⟩ := cap_s hf
      refine g_callVi hx hb hml hown hts hK hap hsx hI (tX1_lastBackRatio l hk2 q13 H.size) cv_X1_lastBackRatio q_t5_204 rfl rfl ⟨Nat.le_of_ble_eq_true rfl, Nat.le_of_ble_eq_true rfl⟩ hk2.1 (by simp) rfl rfl rfl hl.1 rfl (Nat.le_of_ble_eq_true rfl) (dc tbX4_errorOfNumber_0_k 35 rfl) ⟨Nat.le_of_ble_eq_true rfl, Nat.le_of_ble_eq_true rfl⟩ (fun H locs hI => ?_)
      refine lv_icmp_gt (tgt := 74) hx hb (dc tbX4_errorOfNumber_0_k 36 rfl) rfl (fun c16 => ?_) (fun c16 => ?_)
      · have hf := ite_t c16 hf
        exact tX4_errorOfNumber_b74 C hk0 hk1 hk2 y0 hf _ _ _ hI (lv_sub hl [0] rfl)
      · have hf := ite_f c16 hf
        refine lv_iconst (v := 0) hx hb (dc tbX4_errorOfNumber_0_k 37 rfl) ic_0 ?_
        refine lv_istore (lv' := [(5, .int (0 : Int32)), (0, .ref (ad k0)), (1, .ref (G.2.2 k1)), (2, .int x2), (3, .ref (ad k2))]) hx hb (dc tbX4_errorOfNumber_0_k 38 rfl) hl (by decide) rfl (fun ls hl => ?_)
        exact tX4_errorOfNumber_b74 C hk0 hk1 hk2 (0 : Int32) hf _ _ _ hI (lv_sub hl [0] rfl)
def mX4_errorOfNumber (k0 : Nat) (k1 : Nat) (k2 : Nat) (x2 : Int32) (M : Mem) : Option Int32 := cap (mX4_errorIfNot k0 (3 : Int32) (0 : Int32) M) (fun r2 => ite2 (r2 = 0) (ite2 (x2 = 0) (cap (mX5_allows k1 (0 : Int32) (rd M k0 7) M) (fun r18 => mX4_errorOfNumber_b47 k0 k1 k2 M x2 r18)) (chk (okb (0 : Int32) 3) (cap (mX5_allowsBehind k1 (rd M (k0 + 1) ((0 : Int32)).toNatClampNeg) x2 (rd M k0 7) M) (fun r8 => mX4_errorOfNumber_b47 k0 k1 k2 M x2 r8)))) (some r2))
set_option maxHeartbeats 4000000 in
set_option maxRecDepth 100000 in
theorem tX4_errorOfNumber (l : Launch) {G : GT} {kd : Nat → Nat × Nat} {ad : Nat → Nat} {k0 : Nat} {k1 : Nat} {k2 : Nat} (hk0 : kReader kd k0) (hk1 : k1 < 11) (hk2 : kPart kd k2) {x2 : Int32} {M : Mem} {vo : Int32} (hf : mX4_errorOfNumber k0 k1 k2 x2 M = some vo) (n : Nat) : Met l yX4_errorOfNumber (Cond.code yX4_errorOfNumber cX4_errorOfNumber 6 (some .int) :: WA) (rmO 2 0 0) (Pg G kd ad n [.ref (ad k0), .ref (G.2.2 k1), .int x2, .ref (ad k2)] M) (Qg G kd ad n M (some (.int vo))) 0 0 (AS kd ad n) := by
  refine g_body (own := RX4) (by decide) rfl ?_ (Nat.le_of_ble_eq_true rfl)
  intro p e s m args below meth c C _ H locs ls hI hl
  obtain ⟨hx, hb, hml, hr, hown, hts, hlk, hK, hap, hsx⟩ := id C
  have hl : lv_has ls 6 [(0, .ref (ad k0)), (1, .ref (G.2.2 k1)), (2, .int x2), (3, .ref (ad k2))] := hl
  unfold mX4_errorOfNumber at hf
  refine lv_aload_n hx hb (dc tbX4_errorOfNumber_0_k 0 rfl) rfl (lv_at hl 0 rfl) ?_
  refine lv_iconst (v := 3) hx hb (dc tbX4_errorOfNumber_0_k 1 rfl) ic_3 ?_
  refine lv_iconst (v := 0) hx hb (dc tbX4_errorOfNumber_0_k 2 rfl) ic_0 ?_
  obtain ⟨r2, q1, hf⟩ := cap_s hf
  refine g_callVi hx hb hml hown hts hK hap hsx hI (tX4_errorIfNot l hk0 q1 H.size) cv_X4_errorIfNot q_t5_165 rfl rfl ⟨Nat.le_of_ble_eq_true rfl, Nat.le_of_ble_eq_true rfl⟩ hk0.1 (by simp) rfl rfl rfl hl.1 rfl (Nat.le_of_ble_eq_true rfl) (dc tbX4_errorOfNumber_0_k 3 rfl) ⟨Nat.le_of_ble_eq_true rfl, Nat.le_of_ble_eq_true rfl⟩ (fun H locs hI => ?_)
  refine lv_istore (lv' := [(4, .int r2), (0, .ref (ad k0)), (1, .ref (G.2.2 k1)), (2, .int x2), (3, .ref (ad k2))]) hx hb (dc tbX4_errorOfNumber_0_k 4 rfl) hl (by decide) rfl (fun ls hl => ?_)
  refine lv_iload hx hb (dc tbX4_errorOfNumber_0_k 5 rfl) (lv_at hl 0 rfl) ?_
  refine lv_if_eq (tgt := 16) hx hb (dc tbX4_errorOfNumber_0_k 6 rfl) rfl (fun c4 => ?_) (fun c4 => ?_)
  · have hf := ite_t c4 hf
    refine lv_iload_n hx hb (dc tbX4_errorOfNumber_0_k 9 rfl) rfl (lv_at hl 3 rfl) ?_
    refine lv_if_ne (tgt := 32) hx hb (dc tbX4_errorOfNumber_0_k 10 rfl) rfl (fun c5 => ?_) (fun c5 => ?_)
    · have hf := ite_f c5 hf
      refine lv_aload_n hx hb (dc tbX4_errorOfNumber_0_k 17 rfl) rfl (lv_at hl 2 rfl) ?_
      refine lv_aload_n hx hb (dc tbX4_errorOfNumber_0_k 18 rfl) rfl (lv_at hl 1 rfl) ?_
      refine gg4_8 hx hb hts hown hK hI hk0.1 q_t1_53 (dc tbX4_errorOfNumber_0_k 19 rfl) ?_
      refine lv_iconst (v := 0) hx hb (dc tbX4_errorOfNumber_0_k 20 rfl) ic_0 ?_
      obtain ⟨h6, hf⟩ := chk_s hf
      refine g_iald hx hb hK hI hk0.2.1 (okb_in h6) (dc tbX4_errorOfNumber_0_k 21 rfl) ?_
      refine lv_iload_n hx hb (dc tbX4_errorOfNumber_0_k 22 rfl) rfl (lv_at hl 3 rfl) ?_
      refine lv_aload_n hx hb (dc tbX4_errorOfNumber_0_k 23 rfl) rfl (lv_at hl 1 rfl) ?_
      refine gg4_7 hx hb hts hown hK hI hk0.1 q_t1_52 (dc tbX4_errorOfNumber_0_k 24 rfl) ?_
      obtain ⟨r8, q7, hf⟩ := cap_s hf
      refine g_callWi hx hb hml hown hts hK hap hsx hI (tX5_allowsBehind l hk1 q7 H.size) cv_X5_allowsBehind q_t5_197 rfl rfl ⟨Nat.le_of_ble_eq_true rfl, Nat.le_of_ble_eq_true rfl⟩ hk1 rfl hl.1 rfl (Nat.le_of_ble_eq_true rfl) (dc tbX4_errorOfNumber_0_k 25 rfl) ⟨Nat.le_of_ble_eq_true rfl, Nat.le_of_ble_eq_true rfl⟩ (fun H locs hI => ?_)
      exact tX4_errorOfNumber_b47 C hk0 hk1 hk2 x2 r8 hf _ _ _ hI (lv_sub hl [1, 2, 3, 4] rfl)
    · have hf := ite_t c5 hf
      refine lv_aload_n hx hb (dc tbX4_errorOfNumber_0_k 11 rfl) rfl (lv_at hl 2 rfl) ?_
      refine lv_iconst (v := 0) hx hb (dc tbX4_errorOfNumber_0_k 12 rfl) ic_0 ?_
      refine lv_aload_n hx hb (dc tbX4_errorOfNumber_0_k 13 rfl) rfl (lv_at hl 1 rfl) ?_
      refine gg4_7 hx hb hts hown hK hI hk0.1 q_t1_52 (dc tbX4_errorOfNumber_0_k 14 rfl) ?_
      obtain ⟨r18, q17, hf⟩ := cap_s hf
      refine g_callWi hx hb hml hown hts hK hap hsx hI (tX5_allows l hk1 q17 H.size) cv_X5_allows q_t5_193 rfl rfl ⟨Nat.le_of_ble_eq_true rfl, Nat.le_of_ble_eq_true rfl⟩ hk1 rfl hl.1 rfl (Nat.le_of_ble_eq_true rfl) (dc tbX4_errorOfNumber_0_k 15 rfl) ⟨Nat.le_of_ble_eq_true rfl, Nat.le_of_ble_eq_true rfl⟩ (fun H locs hI => ?_)
      refine lv_goto (tgt := 47) hx hb (dc tbX4_errorOfNumber_0_k 16 rfl) rfl ?_
      exact tX4_errorOfNumber_b47 C hk0 hk1 hk2 x2 r18 hf _ _ _ hI (lv_sub hl [1, 2, 3, 4] rfl)
  · have hf := ite_f c4 hf
    refine lv_iload hx hb (dc tbX4_errorOfNumber_0_k 7 rfl) (lv_at hl 0 rfl) ?_
    cases hf
    exact g_iret hx hb hr hlk hI (dc tbX4_errorOfNumber_0_k 8 rfl)
theorem cv_X4_errorOfNumber : cvF RX4 yX4_errorOfNumber cX4_errorOfNumber 6 (some .int) 3 := ⟨q_t5_191, q_s2_9, q_t1_2, q_t5_192, by decide +kernel⟩
def mX4_accept_b139 (k0 : Nat) (k1 : Nat) (k2 : Nat) (y1 : Int32) (y2 : Int32) (M : Mem) : Option (Mem × Unit) := cal (mX1_addLeg k2 y1 y2 M) (fun M12 _ => some (M12, ()))
set_option maxHeartbeats 4000000 in
set_option maxRecDepth 100000 in
theorem tX4_accept_b139 {p : Program} {l : Launch} {e : Env} {s : State} {m : MethodId} {args : Array Value} {below : List Frame} {meth : Method} {c : Code} {G : GT} {kd : Nat → Nat × Nat} {ad : Nat → Nat} (C : Cx p s m args meth c cX4_accept 4 none RX4 G kd ad) {k0 : Nat} {k1 : Nat} {k2 : Nat} (hk0 : kReader kd k0) (hk1 : k1 < 11) (hk2 : kPart kd k2) {MO : Mem} {vo : Unit}   : ∀ (y1 : Int32) (y2 : Int32) (M : Mem), mX4_accept_b139 k0 k1 k2 y1 y2 M = some (MO, vo) → At p l e (rmO 2 0 0) s m args below meth c 0 0 (MQ below (Qg G kd ad s.heap.size MO none) args s 0 0 (AS kd ad s.heap.size)) G kd ad 4 139 [] [.int y2, .int y1, .ref (ad k2)] M := by
  intro y1 y2 M hf H locs ls hI hl
  obtain ⟨hx, hb, hml, hr, hown, hts, hlk, hK, hap, hsx⟩ := id C
  unfold mX4_accept_b139 at hf
  obtain ⟨M12, r11, q10, hf⟩ := cal_s hf
  refine g_callVv hx hb hml hown hts hK hap hsx hI (tX1_addLeg l hk2 q10 H.size) cv_X1_addLeg q_t5_239 rfl rfl ⟨Nat.le_of_ble_eq_true rfl, Nat.le_of_ble_eq_true rfl⟩ hk2.1 (by simp) rfl rfl rfl hl.1 rfl (Nat.le_of_ble_eq_true rfl) (dc tbX4_accept_1_k 39 rfl) ⟨Nat.le_of_ble_eq_true rfl, Nat.le_of_ble_eq_true rfl⟩ (fun H locs hI => ?_)
  cases hf
  exact g_vret hx hb hr hlk hI (dc tbX4_accept_2_k 0 rfl)
def mX4_accept (k0 : Nat) (k1 : Nat) (k2 : Nat) (M : Mem) : Option (Mem × Unit) := cap (mX5_toolNumber k1 M) (fun r2 => ite2 (r2 = (-1 : Int32)) (ite2 (k1 = 0) (chk (okb (0 : Int32) 3) (chk (okb (1 : Int32) 3) (chk (okb (2 : Int32) 3) (cal (mX1_putSheet k2 (rd M (k0 + 1) ((0 : Int32)).toNatClampNeg) (rd M (k0 + 1) ((1 : Int32)).toNatClampNeg) (rd M (k0 + 1) ((2 : Int32)).toNatClampNeg) M) (fun M29 _ => some (M29, ())))))) (ite2 (k1 = 10) (chk (okb (0 : Int32) 3) (chk (okb (1 : Int32) 3) (chk (okb (2 : Int32) 3) (cal (mX1_putCosts k2 (rd M (k0 + 1) ((0 : Int32)).toNatClampNeg) (rd M (k0 + 1) ((1 : Int32)).toNatClampNeg) (rd M (k0 + 1) ((2 : Int32)).toNatClampNeg) M) (fun M23 _ => some (M23, ())))))) (ite2 (k1 = 4) (chk (okb (0 : Int32) 3) (chk (okb (1 : Int32) 3) (cal (mX1_addBack k2 (rd M (k0 + 1) ((0 : Int32)).toNatClampNeg) (rd M (k0 + 1) ((1 : Int32)).toNatClampNeg) M) (fun M17 _ => some (M17, ()))))) (chk (okb (0 : Int32) 3) (ite2 (k1 = 2) (mX4_accept_b139 k0 k1 k2 (rd M (k0 + 1) ((0 : Int32)).toNatClampNeg) (1 : Int32) M) (mX4_accept_b139 k0 k1 k2 (rd M (k0 + 1) ((0 : Int32)).toNatClampNeg) (0 : Int32) M)))))) (chk (okb (0 : Int32) 3) (chk (okb (1 : Int32) 3) (cal (mX1_putTool k2 r2 (rd M (k0 + 1) ((0 : Int32)).toNatClampNeg) (rd M (k0 + 1) ((1 : Int32)).toNatClampNeg) M) (fun M34 _ => some (M34, ()))))))
set_option maxHeartbeats 4000000 in
set_option maxRecDepth 100000 in
theorem tX4_accept (l : Launch) {G : GT} {kd : Nat → Nat × Nat} {ad : Nat → Nat} {k0 : Nat} {k1 : Nat} {k2 : Nat} (hk0 : kReader kd k0) (hk1 : k1 < 11) (hk2 : kPart kd k2) {M : Mem} {MO : Mem} {vo : Unit} (hf : mX4_accept k0 k1 k2 M = some (MO, vo)) (n : Nat) : Met l yX4_accept (Cond.code yX4_accept cX4_accept 4 none :: WA) (rmO 2 0 0) (Pg G kd ad n [.ref (ad k0), .ref (G.2.2 k1), .ref (ad k2)] M) (Qg G kd ad n MO none) 0 0 (AS kd ad n) := by
  refine g_body (own := RX4) (by decide) rfl ?_ (Nat.le_of_ble_eq_true rfl)
  intro p e s m args below meth c C _ H locs ls hI hl
  obtain ⟨hx, hb, hml, hr, hown, hts, hlk, hK, hap, hsx⟩ := id C
  have hl : lv_has ls 4 [(0, .ref (ad k0)), (1, .ref (G.2.2 k1)), (2, .ref (ad k2))] := hl
  unfold mX4_accept at hf
  refine lv_aload_n hx hb (dc tbX4_accept_0_k 0 rfl) rfl (lv_at hl 1 rfl) ?_
  obtain ⟨r2, q1, hf⟩ := cap_s hf
  refine g_callWi hx hb hml hown hts hK hap hsx hI (tX5_toolNumber l hk1 q1 H.size) cv_X5_toolNumber q_t5_212 rfl rfl ⟨Nat.le_of_ble_eq_true rfl, Nat.le_of_ble_eq_true rfl⟩ hk1 rfl hl.1 rfl (Nat.le_of_ble_eq_true rfl) (dc tbX4_accept_0_k 1 rfl) ⟨Nat.le_of_ble_eq_true rfl, Nat.le_of_ble_eq_true rfl⟩ (fun H locs hI => ?_)
  refine lv_istore_n (lv' := [(3, .int r2), (0, .ref (ad k0)), (1, .ref (G.2.2 k1)), (2, .ref (ad k2))]) hx hb (dc tbX4_accept_0_k 2 rfl) rfl hl (by decide) rfl (fun ls hl => ?_)
  refine lv_iload_n hx hb (dc tbX4_accept_0_k 3 rfl) rfl (lv_at hl 0 rfl) ?_
  refine lv_iconst (v := -1) hx hb (dc tbX4_accept_0_k 4 rfl) ic_m1 ?_
  refine lv_icmp_eq (tgt := 30) hx hb (dc tbX4_accept_0_k 5 rfl) rfl (fun c4 => ?_) (fun c4 => ?_)
  · have hf := ite_t c4 hf
    refine lv_aload_n hx hb (dc tbX4_accept_0_k 18 rfl) rfl (lv_at hl 2 rfl) ?_
    refine g_gsW 0 (by decide) hx hb hown hts hsx hI q_t5_228 (dc tbX4_accept_0_k 19 rfl) ?_
    refine g_wne (tgt := 62) hx hb hsx hk1 (by decide) (dc tbX4_accept_0_k 20 rfl) rfl (fun c5 => ?_) (fun c5 => ?_)
    · have hf := ite_f c5 hf
      refine lv_aload_n hx hb (dc tbX4_accept_0_k 36 rfl) rfl (lv_at hl 2 rfl) ?_
      refine g_gsW 10 (by decide) hx hb hown hts hsx hI q_t5_231 (dc tbX4_accept_0_k 37 rfl) ?_
      refine g_wne (tgt := 94) hx hb hsx hk1 (by decide) (dc tbX4_accept_0_k 38 rfl) rfl (fun c6 => ?_) (fun c6 => ?_)
      · have hf := ite_f c6 hf
        refine lv_aload_n hx hb (dc tbX4_accept_1_k 14 rfl) rfl (lv_at hl 2 rfl) ?_
        refine g_gsW 4 (by decide) hx hb hown hts hsx hI q_t5_183 (dc tbX4_accept_1_k 15 rfl) ?_
        refine g_wne (tgt := 120) hx hb hsx hk1 (by decide) (dc tbX4_accept_1_k 16 rfl) rfl (fun c7 => ?_) (fun c7 => ?_)
        · have hf := ite_f c7 hf
          refine lv_aload_n hx hb (dc tbX4_accept_1_k 28 rfl) rfl (lv_at hl 3 rfl) ?_
          refine lv_aload_n hx hb (dc tbX4_accept_1_k 29 rfl) rfl (lv_at hl 1 rfl) ?_
          refine gg4_8 hx hb hts hown hK hI hk0.1 q_t1_53 (dc tbX4_accept_1_k 30 rfl) ?_
          refine lv_iconst (v := 0) hx hb (dc tbX4_accept_1_k 31 rfl) ic_0 ?_
          obtain ⟨h8, hf⟩ := chk_s hf
          refine g_iald hx hb hK hI hk0.2.1 (okb_in h8) (dc tbX4_accept_1_k 32 rfl) ?_
          refine lv_aload_n hx hb (dc tbX4_accept_1_k 33 rfl) rfl (lv_at hl 2 rfl) ?_
          refine g_gsW 2 (by decide) hx hb hown hts hsx hI q_t5_238 (dc tbX4_accept_1_k 34 rfl) ?_
          refine g_wne (tgt := 138) hx hb hsx hk1 (by decide) (dc tbX4_accept_1_k 35 rfl) rfl (fun c9 => ?_) (fun c9 => ?_)
          · have hf := ite_f c9 hf
            refine lv_iconst (v := 0) hx hb (dc tbX4_accept_1_k 38 rfl) ic_0 ?_
            exact tX4_accept_b139 C hk0 hk1 hk2 (rd M (k0 + 1) ((0 : Int32)).toNatClampNeg) (0 : Int32) M hf _ _ _ hI (lv_sub hl [] rfl)
          · have hf := ite_t c9 hf
            refine lv_iconst (v := 1) hx hb (dc tbX4_accept_1_k 36 rfl) ic_1 ?_
            refine lv_goto (tgt := 139) hx hb (dc tbX4_accept_1_k 37 rfl) rfl ?_
            exact tX4_accept_b139 C hk0 hk1 hk2 (rd M (k0 + 1) ((0 : Int32)).toNatClampNeg) (1 : Int32) M hf _ _ _ hI (lv_sub hl [] rfl)
        · have hf := ite_t c7 hf
          refine lv_aload_n hx hb (dc tbX4_accept_1_k 17 rfl) rfl (lv_at hl 3 rfl) ?_
          refine lv_aload_n hx hb (dc tbX4_accept_1_k 18 rfl) rfl (lv_at hl 1 rfl) ?_
          refine gg4_8 hx hb hts hown hK hI hk0.1 q_t1_53 (dc tbX4_accept_1_k 19 rfl) ?_
          refine lv_iconst (v := 0) hx hb (dc tbX4_accept_1_k 20 rfl) ic_0 ?_
          obtain ⟨h13, hf⟩ := chk_s hf
          refine g_iald hx hb hK hI hk0.2.1 (okb_in h13) (dc tbX4_accept_1_k 21 rfl) ?_
          refine lv_aload_n hx hb (dc tbX4_accept_1_k 22 rfl) rfl (lv_at hl 1 rfl) ?_
          refine gg4_8 hx hb hts hown hK hI hk0.1 q_t1_53 (dc tbX4_accept_1_k 23 rfl) ?_
          refine lv_iconst (v := 1) hx hb (dc tbX4_accept_1_k 24 rfl) ic_1 ?_
          obtain ⟨h14, hf⟩ := chk_s hf
          refine g_iald hx hb hK hI hk0.2.1 (okb_in h14) (dc tbX4_accept_1_k 25 rfl) ?_
          obtain ⟨M17, r16, q15, hf⟩ := cal_s hf
          refine g_callVv hx hb hml hown hts hK hap hsx hI (tX1_addBack l hk2 q15 H.size) cv_X1_addBack q_t5_234 rfl rfl ⟨Nat.le_of_ble_eq_true rfl, Nat.le_of_ble_eq_true rfl⟩ hk2.1 (by simp) rfl rfl rfl hl.1 rfl (Nat.le_of_ble_eq_true rfl) (dc tbX4_accept_1_k 26 rfl) ⟨Nat.le_of_ble_eq_true rfl, Nat.le_of_ble_eq_true rfl⟩ (fun H locs hI => ?_)
          refine lv_goto (tgt := 142) hx hb (dc tbX4_accept_1_k 27 rfl) rfl ?_
          cases hf
          exact g_vret hx hb hr hlk hI (dc tbX4_accept_2_k 0 rfl)
      · have hf := ite_t c6 hf
        refine lv_aload_n hx hb (dc tbX4_accept_0_k 39 rfl) rfl (lv_at hl 3 rfl) ?_
        refine lv_aload_n hx hb (dc tbX4_accept_1_k 0 rfl) rfl (lv_at hl 1 rfl) ?_
        refine gg4_8 hx hb hts hown hK hI hk0.1 q_t1_53 (dc tbX4_accept_1_k 1 rfl) ?_
        refine lv_iconst (v := 0) hx hb (dc tbX4_accept_1_k 2 rfl) ic_0 ?_
        obtain ⟨h18, hf⟩ := chk_s hf
        refine g_iald hx hb hK hI hk0.2.1 (okb_in h18) (dc tbX4_accept_1_k 3 rfl) ?_
        refine lv_aload_n hx hb (dc tbX4_accept_1_k 4 rfl) rfl (lv_at hl 1 rfl) ?_
        refine gg4_8 hx hb hts hown hK hI hk0.1 q_t1_53 (dc tbX4_accept_1_k 5 rfl) ?_
        refine lv_iconst (v := 1) hx hb (dc tbX4_accept_1_k 6 rfl) ic_1 ?_
        obtain ⟨h19, hf⟩ := chk_s hf
        refine g_iald hx hb hK hI hk0.2.1 (okb_in h19) (dc tbX4_accept_1_k 7 rfl) ?_
        refine lv_aload_n hx hb (dc tbX4_accept_1_k 8 rfl) rfl (lv_at hl 1 rfl) ?_
        refine gg4_8 hx hb hts hown hK hI hk0.1 q_t1_53 (dc tbX4_accept_1_k 9 rfl) ?_
        refine lv_iconst (v := 2) hx hb (dc tbX4_accept_1_k 10 rfl) ic_2 ?_
        obtain ⟨h20, hf⟩ := chk_s hf
        refine g_iald hx hb hK hI hk0.2.1 (okb_in h20) (dc tbX4_accept_1_k 11 rfl) ?_
        obtain ⟨M23, r22, q21, hf⟩ := cal_s hf
        refine g_callVv hx hb hml hown hts hK hap hsx hI (tX1_putCosts l hk2 q21 H.size) cv_X1_putCosts q_t5_233 rfl rfl ⟨Nat.le_of_ble_eq_true rfl, Nat.le_of_ble_eq_true rfl⟩ hk2.1 (by simp) rfl rfl rfl hl.1 rfl (Nat.le_of_ble_eq_true rfl) (dc tbX4_accept_1_k 12 rfl) ⟨Nat.le_of_ble_eq_true rfl, Nat.le_of_ble_eq_true rfl⟩ (fun H locs hI => ?_)
        refine lv_goto (tgt := 142) hx hb (dc tbX4_accept_1_k 13 rfl) rfl ?_
        cases hf
        exact g_vret hx hb hr hlk hI (dc tbX4_accept_2_k 0 rfl)
    · have hf := ite_t c5 hf
      refine lv_aload_n hx hb (dc tbX4_accept_0_k 21 rfl) rfl (lv_at hl 3 rfl) ?_
      refine lv_aload_n hx hb (dc tbX4_accept_0_k 22 rfl) rfl (lv_at hl 1 rfl) ?_
      refine gg4_8 hx hb hts hown hK hI hk0.1 q_t1_53 (dc tbX4_accept_0_k 23 rfl) ?_
      refine lv_iconst (v := 0) hx hb (dc tbX4_accept_0_k 24 rfl) ic_0 ?_
      obtain ⟨h24, hf⟩ := chk_s hf
      refine g_iald hx hb hK hI hk0.2.1 (okb_in h24) (dc tbX4_accept_0_k 25 rfl) ?_
      refine lv_aload_n hx hb (dc tbX4_accept_0_k 26 rfl) rfl (lv_at hl 1 rfl) ?_
      refine gg4_8 hx hb hts hown hK hI hk0.1 q_t1_53 (dc tbX4_accept_0_k 27 rfl) ?_
      refine lv_iconst (v := 1) hx hb (dc tbX4_accept_0_k 28 rfl) ic_1 ?_
      obtain ⟨h25, hf⟩ := chk_s hf
      refine g_iald hx hb hK hI hk0.2.1 (okb_in h25) (dc tbX4_accept_0_k 29 rfl) ?_
      refine lv_aload_n hx hb (dc tbX4_accept_0_k 30 rfl) rfl (lv_at hl 1 rfl) ?_
      refine gg4_8 hx hb hts hown hK hI hk0.1 q_t1_53 (dc tbX4_accept_0_k 31 rfl) ?_
      refine lv_iconst (v := 2) hx hb (dc tbX4_accept_0_k 32 rfl) ic_2 ?_
      obtain ⟨h26, hf⟩ := chk_s hf
      refine g_iald hx hb hK hI hk0.2.1 (okb_in h26) (dc tbX4_accept_0_k 33 rfl) ?_
      obtain ⟨M29, r28, q27, hf⟩ := cal_s hf
      refine g_callVv hx hb hml hown hts hK hap hsx hI (tX1_putSheet l hk2 q27 H.size) cv_X1_putSheet q_t5_230 rfl rfl ⟨Nat.le_of_ble_eq_true rfl, Nat.le_of_ble_eq_true rfl⟩ hk2.1 (by simp) rfl rfl rfl hl.1 rfl (Nat.le_of_ble_eq_true rfl) (dc tbX4_accept_0_k 34 rfl) ⟨Nat.le_of_ble_eq_true rfl, Nat.le_of_ble_eq_true rfl⟩ (fun H locs hI => ?_)
      refine lv_goto (tgt := 142) hx hb (dc tbX4_accept_0_k 35 rfl) rfl ?_
      cases hf
      exact g_vret hx hb hr hlk hI (dc tbX4_accept_2_k 0 rfl)
  · have hf := ite_f c4 hf
    refine lv_aload_n hx hb (dc tbX4_accept_0_k 6 rfl) rfl (lv_at hl 3 rfl) ?_
    refine lv_iload_n hx hb (dc tbX4_accept_0_k 7 rfl) rfl (lv_at hl 0 rfl) ?_
    refine lv_aload_n hx hb (dc tbX4_accept_0_k 8 rfl) rfl (lv_at hl 1 rfl) ?_
    refine gg4_8 hx hb hts hown hK hI hk0.1 q_t1_53 (dc tbX4_accept_0_k 9 rfl) ?_
    refine lv_iconst (v := 0) hx hb (dc tbX4_accept_0_k 10 rfl) ic_0 ?_
    obtain ⟨h30, hf⟩ := chk_s hf
    refine g_iald hx hb hK hI hk0.2.1 (okb_in h30) (dc tbX4_accept_0_k 11 rfl) ?_
    refine lv_aload_n hx hb (dc tbX4_accept_0_k 12 rfl) rfl (lv_at hl 1 rfl) ?_
    refine gg4_8 hx hb hts hown hK hI hk0.1 q_t1_53 (dc tbX4_accept_0_k 13 rfl) ?_
    refine lv_iconst (v := 1) hx hb (dc tbX4_accept_0_k 14 rfl) ic_1 ?_
    obtain ⟨h31, hf⟩ := chk_s hf
    refine g_iald hx hb hK hI hk0.2.1 (okb_in h31) (dc tbX4_accept_0_k 15 rfl) ?_
    obtain ⟨M34, r33, q32, hf⟩ := cal_s hf
    refine g_callVv hx hb hml hown hts hK hap hsx hI (tX1_putTool l hk2 q32 H.size) cv_X1_putTool q_t5_227 rfl rfl ⟨Nat.le_of_ble_eq_true rfl, Nat.le_of_ble_eq_true rfl⟩ hk2.1 (by simp) rfl rfl rfl hl.1 rfl (Nat.le_of_ble_eq_true rfl) (dc tbX4_accept_0_k 16 rfl) ⟨Nat.le_of_ble_eq_true rfl, Nat.le_of_ble_eq_true rfl⟩ (fun H locs hI => ?_)
    refine lv_goto (tgt := 142) hx hb (dc tbX4_accept_0_k 17 rfl) rfl ?_
    cases hf
    exact g_vret hx hb hr hlk hI (dc tbX4_accept_2_k 0 rfl)
theorem cv_X4_accept : cvF RX4 yX4_accept cX4_accept 4 none 2 := ⟨q_t5_210, q_s2_10, q_t1_2, q_t5_211, by decide +kernel⟩
def mX4_readStatement_b148 (k0 : Nat) (k1 : Nat) (x3 : Int32) (M : Mem) : Option (Mem × Unit) := bnd (wr M k0 0 x3) (fun M8 => bnd (wr M8 k0 1 (rd M8 k0 4)) (fun M10 => some (M10, ())))
set_option maxHeartbeats 4000000 in
set_option maxRecDepth 100000 in
theorem tX4_readStatement_b148 {p : Program} {l : Launch} {e : Env} {s : State} {m : MethodId} {args : Array Value} {below : List Frame} {meth : Method} {c : Code} {G : GT} {kd : Nat → Nat × Nat} {ad : Nat → Nat} (C : Cx p s m args meth c cX4_readStatement 5 none RX4 G kd ad) {k0 : Nat} {k1 : Nat} (hk0 : kReader kd k0) (hk1 : kPart kd k1) {MO : Mem} {vo : Unit}   : ∀ (x3 : Int32) (M : Mem), mX4_readStatement_b148 k0 k1 x3 M = some (MO, vo) → At p l e (rmO 6 0 0) s m args below meth c 0 0 (MQ below (Qg G kd ad s.heap.size MO none) args s 0 0 (AS kd ad s.heap.size)) G kd ad 5 148 [(0, .ref (ad k0)), (3, .int x3)] [] M := by
  intro x3 M hf H locs ls hI hl
  obtain ⟨hx, hb, hml, hr, hown, hts, hlk, hK, hap, hsx⟩ := id C
  unfold mX4_readStatement_b148 at hf
  refine lv_aload_n hx hb (dc tbX4_readStatement_2_k 0 rfl) rfl (lv_at hl 0 rfl) ?_
  refine lv_iload_n hx hb (dc tbX4_readStatement_2_k 1 rfl) rfl (lv_at hl 1 rfl) ?_
  obtain ⟨M8, e9, hf⟩ := bnd_s hf
  refine gp4_0 hx hb hts hown hK hap hI hk0.1 q_t1_43 (dc tbX4_readStatement_2_k 2 rfl) e9 (fun H locs hI => ?_)
  refine lv_aload_n hx hb (dc tbX4_readStatement_2_k 3 rfl) rfl (lv_at hl 0 rfl) ?_
  refine lv_aload_n hx hb (dc tbX4_readStatement_2_k 4 rfl) rfl (lv_at hl 0 rfl) ?_
  refine gg4_4 hx hb hts hown hK hI hk0.1 q_t1_49 (dc tbX4_readStatement_2_k 5 rfl) ?_
  obtain ⟨M10, e11, hf⟩ := bnd_s hf
  refine gp4_1 hx hb hts hown hK hap hI hk0.1 q_t1_45 (dc tbX4_readStatement_2_k 6 rfl) e11 (fun H locs hI => ?_)
  cases hf
  exact g_vret hx hb hr hlk hI (dc tbX4_readStatement_2_k 7 rfl)
def mX4_readStatement_b131 (k0 : Nat) (k1 : Nat) (x3 : Int32) (M : Mem) : Option (Mem × Unit) := ite2 (x3 = 0) (mX4_readStatement_b148 k0 k1 x3 M) (mX4_readStatement_b148 k0 k1 x3 M)
set_option maxHeartbeats 4000000 in
set_option maxRecDepth 100000 in
theorem tX4_readStatement_b131 {p : Program} {l : Launch} {e : Env} {s : State} {m : MethodId} {args : Array Value} {below : List Frame} {meth : Method} {c : Code} {G : GT} {kd : Nat → Nat × Nat} {ad : Nat → Nat} (C : Cx p s m args meth c cX4_readStatement 5 none RX4 G kd ad) {k0 : Nat} {k1 : Nat} (hk0 : kReader kd k0) (hk1 : kPart kd k1) {MO : Mem} {vo : Unit}   : ∀ (x3 : Int32) (M : Mem), mX4_readStatement_b131 k0 k1 x3 M = some (MO, vo) → At p l e (rmO 6 0 0) s m args below meth c 0 0 (MQ below (Qg G kd ad s.heap.size MO none) args s 0 0 (AS kd ad s.heap.size)) G kd ad 5 131 [(0, .ref (ad k0)), (1, .ref (ad k1)), (2, .null), (3, .int x3)] [] M := by
  intro x3 M hf H locs ls hI hl
  obtain ⟨hx, hb, hml, hr, hown, hts, hlk, hK, hap, hsx⟩ := id C
  unfold mX4_readStatement_b131 at hf
  refine lv_iload_n hx hb (dc tbX4_readStatement_1_k 31 rfl) rfl (lv_at hl 3 rfl) ?_
  refine lv_if_ne (tgt := 148) hx hb (dc tbX4_readStatement_1_k 32 rfl) rfl (fun c7 => ?_) (fun c7 => ?_)
  · have hf := ite_f c7 hf
    exact tX4_readStatement_b148 C hk0 hk1 x3 M hf _ _ _ hI (lv_sub hl [0, 3] rfl)
  · have hf := ite_t c7 hf
    refine lv_aload_nN hx hb (dc tbX4_readStatement_1_k 33 rfl) rfl (lv_at hl 2 rfl) ?_
    refine lv_ifnullN (tgt := 148) hx hb (dc tbX4_readStatement_1_k 34 rfl) rfl ?_
    exact tX4_readStatement_b148 C hk0 hk1 x3 M hf _ _ _ hI (lv_sub hl [0, 3] rfl)
def mX4_readStatement_b110 (k0 : Nat) (k1 : Nat) (ih55 : Int32 → Int32 → Mem → Option (Mem × Unit)) (x3 : Int32) (x4 : Int32) (M : Mem) : Option (Mem × Unit) := bnd (x4 + (1 : Int32)) (fun x4_110 => ih55 x3 x4_110 M)
set_option maxHeartbeats 4000000 in
set_option maxRecDepth 100000 in
theorem tX4_readStatement_b110 {p : Program} {l : Launch} {e : Env} {s : State} {m : MethodId} {args : Array Value} {below : List Frame} {meth : Method} {c : Code} {G : GT} {kd : Nat → Nat × Nat} {ad : Nat → Nat} (C : Cx p s m args meth c cX4_readStatement 5 none RX4 G kd ad) {k0 : Nat} {k1 : Nat} (hk0 : kReader kd k0) (hk1 : kPart kd k1) {MO : Mem} {vo : Unit} {ih55 : Int32 → Int32 → Mem → Option (Mem × Unit)} (hih55 : ∀ (x3 : Int32) (x4 : Int32) (M : Mem), ih55 x3 x4 M = some (MO, vo) → At p l e (rmO 6 0 0) s m args below meth c 0 0 (MQ below (Qg G kd ad s.heap.size MO none) args s 0 0 (AS kd ad s.heap.size)) G kd ad 5 55 [(0, .ref (ad k0)), (1, .ref (ad k1)), (2, .null), (3, .int x3), (4, .int x4)] [] M) : ∀ (x3 : Int32) (x4 : Int32) (M : Mem), mX4_readStatement_b110 k0 k1 ih55 x3 x4 M = some (MO, vo) → At p l e (rmO 6 0 0) s m args below meth c 0 0 (MQ below (Qg G kd ad s.heap.size MO none) args s 0 0 (AS kd ad s.heap.size)) G kd ad 5 110 [(0, .ref (ad k0)), (1, .ref (ad k1)), (2, .null), (3, .int x3), (4, .int x4)] [] M := by
  intro x3 x4 M hf H locs ls hI hl
  obtain ⟨hx, hb, hml, hr, hown, hts, hlk, hK, hap, hsx⟩ := id C
  unfold mX4_readStatement_b110 at hf
  obtain ⟨x4_110, e22, hf⟩ := bnd_s hf
  refine lv_iinc (v := x4_110) (lv' := [(4, .int x4_110), (0, .ref (ad k0)), (1, .ref (ad k1)), (2, .null), (3, .int x3)]) hx hb (dc tbX4_readStatement_1_k 20 rfl) hl (k := 4) rfl (ii_e e22 ic_1) (by decide) rfl (fun ls hl => ?_)
  refine lv_goto (tgt := 55) hx hb (dc tbX4_readStatement_1_k 21 rfl) rfl ?_
  exact hih55 x3 x4_110 M hf _ _ _ hI (lv_sub hl [1, 2, 3, 4, 0] rfl)
def mX4_readStatement_b55 (k0 : Nat) (k1 : Nat) (ih55 : Int32 → Int32 → Mem → Option (Mem × Unit)) (x3 : Int32) (x4 : Int32) (M : Mem) : Option (Mem × Unit) := ite2 ((3 : Int32) ≤ x4) (ite2 (x3 = 0) (cal (mX4_nextToken k0 M) (fun M14 _ => cap (mX4_errorIfNot k0 (4 : Int32) (0 : Int32) M14) (fun r16 => mX4_readStatement_b131 k0 k1 r16 M14))) (mX4_readStatement_b131 k0 k1 x3 M)) (chk (okb x4 3) (bnd (wr M (k0 + 1) (x4).toNatClampNeg (0 : Int32)) (fun M20 => ite2 (x3 = 0) (mX4_readStatement_b110 k0 k1 ih55 x3 x4 M20) (mX4_readStatement_b110 k0 k1 ih55 x3 x4 M20))))
set_option maxHeartbeats 4000000 in
set_option maxRecDepth 100000 in
theorem tX4_readStatement_b55 {p : Program} {l : Launch} {e : Env} {s : State} {m : MethodId} {args : Array Value} {below : List Frame} {meth : Method} {c : Code} {G : GT} {kd : Nat → Nat × Nat} {ad : Nat → Nat} (C : Cx p s m args meth c cX4_readStatement 5 none RX4 G kd ad) {k0 : Nat} {k1 : Nat} (hk0 : kReader kd k0) (hk1 : kPart kd k1) {MO : Mem} {vo : Unit} {ih55 : Int32 → Int32 → Mem → Option (Mem × Unit)} (hih55 : ∀ (x3 : Int32) (x4 : Int32) (M : Mem), ih55 x3 x4 M = some (MO, vo) → At p l e (rmO 6 0 0) s m args below meth c 0 0 (MQ below (Qg G kd ad s.heap.size MO none) args s 0 0 (AS kd ad s.heap.size)) G kd ad 5 55 [(0, .ref (ad k0)), (1, .ref (ad k1)), (2, .null), (3, .int x3), (4, .int x4)] [] M) : ∀ (x3 : Int32) (x4 : Int32) (M : Mem), mX4_readStatement_b55 k0 k1 ih55 x3 x4 M = some (MO, vo) → At p l e (rmO 6 0 0) s m args below meth c 0 0 (MQ below (Qg G kd ad s.heap.size MO none) args s 0 0 (AS kd ad s.heap.size)) G kd ad 5 55 [(0, .ref (ad k0)), (1, .ref (ad k1)), (2, .null), (3, .int x3), (4, .int x4)] [] M := by
  intro x3 x4 M hf H locs ls hI hl
  obtain ⟨hx, hb, hml, hr, hown, hts, hlk, hK, hap, hsx⟩ := id C
  unfold mX4_readStatement_b55 at hf
  refine lv_iload hx hb (dc tbX4_readStatement_0_k 30 rfl) (lv_at hl 4 rfl) ?_
  refine lv_iconst (v := 3) hx hb (dc tbX4_readStatement_0_k 31 rfl) ic_3 ?_
  refine lv_icmp_ge (tgt := 116) hx hb (dc tbX4_readStatement_0_k 32 rfl) rfl (fun c5 => ?_) (fun c5 => ?_)
  · have hf := ite_t c5 hf
    refine lv_iload_n hx hb (dc tbX4_readStatement_1_k 22 rfl) rfl (lv_at hl 3 rfl) ?_
    refine lv_if_ne (tgt := 131) hx hb (dc tbX4_readStatement_1_k 23 rfl) rfl (fun c6 => ?_) (fun c6 => ?_)
    · have hf := ite_f c6 hf
      exact tX4_readStatement_b131 C hk0 hk1 x3 M hf _ _ _ hI (lv_sub hl [0, 1, 2, 3] rfl)
    · have hf := ite_t c6 hf
      refine lv_aload_n hx hb (dc tbX4_readStatement_1_k 24 rfl) rfl (lv_at hl 0 rfl) ?_
      obtain ⟨M14, r13, q12, hf⟩ := cal_s hf
      refine g_callVv hx hb hml hown hts hK hap hsx hI (tX4_nextToken l hk0 q12 H.size) cv_X4_nextToken q_t5_114 rfl rfl ⟨Nat.le_of_ble_eq_true rfl, Nat.le_of_ble_eq_true rfl⟩ hk0.1 (by simp) rfl rfl rfl hl.1 rfl (Nat.le_of_ble_eq_true rfl) (dc tbX4_readStatement_1_k 25 rfl) ⟨Nat.le_of_ble_eq_true rfl, Nat.le_of_ble_eq_true rfl⟩ (fun H locs hI => ?_)
      refine lv_aload_n hx hb (dc tbX4_readStatement_1_k 26 rfl) rfl (lv_at hl 0 rfl) ?_
      refine lv_iconst (v := 4) hx hb (dc tbX4_readStatement_1_k 27 rfl) ic_4 ?_
      refine lv_iconst (v := 0) hx hb (dc tbX4_readStatement_1_k 28 rfl) ic_0 ?_
      obtain ⟨r16, q15, hf⟩ := cap_s hf
      refine g_callVi hx hb hml hown hts hK hap hsx hI (tX4_errorIfNot l hk0 q15 H.size) cv_X4_errorIfNot q_t5_165 rfl rfl ⟨Nat.le_of_ble_eq_true rfl, Nat.le_of_ble_eq_true rfl⟩ hk0.1 (by simp) rfl rfl rfl hl.1 rfl (Nat.le_of_ble_eq_true rfl) (dc tbX4_readStatement_1_k 29 rfl) ⟨Nat.le_of_ble_eq_true rfl, Nat.le_of_ble_eq_true rfl⟩ (fun H locs hI => ?_)
      refine lv_istore_n (lv' := [(3, .int r16), (0, .ref (ad k0)), (1, .ref (ad k1)), (2, .null), (4, .int x4)]) hx hb (dc tbX4_readStatement_1_k 30 rfl) rfl hl (by decide) rfl (fun ls hl => ?_)
      exact tX4_readStatement_b131 C hk0 hk1 r16 M14 hf _ _ _ hI (lv_sub hl [1, 2, 3, 0] rfl)
  · have hf := ite_f c5 hf
    refine lv_aload_n hx hb (dc tbX4_readStatement_0_k 33 rfl) rfl (lv_at hl 0 rfl) ?_
    refine gg4_8 hx hb hts hown hK hI hk0.1 q_t1_53 (dc tbX4_readStatement_0_k 34 rfl) ?_
    refine lv_iload hx hb (dc tbX4_readStatement_0_k 35 rfl) (lv_at hl 4 rfl) ?_
    refine lv_iconst (v := 0) hx hb (dc tbX4_readStatement_0_k 36 rfl) ic_0 ?_
    obtain ⟨h18, hf⟩ := chk_s hf
    obtain ⟨M20, e19, hf⟩ := bnd_s hf
    refine g_iast hx hb hK hap hI hk0.2.1 (okb_in h18) (dc tbX4_readStatement_0_k 37 rfl) e19 (fun H locs hI => ?_)
    refine lv_iload_n hx hb (dc tbX4_readStatement_0_k 38 rfl) rfl (lv_at hl 3 rfl) ?_
    refine lv_if_ne (tgt := 110) hx hb (dc tbX4_readStatement_0_k 39 rfl) rfl (fun c21 => ?_) (fun c21 => ?_)
    · have hf := ite_f c21 hf
      exact tX4_readStatement_b110 C hk0 hk1 hih55 x3 x4 M20 hf _ _ _ hI (lv_sub hl [0, 1, 2, 3, 4] rfl)
    · have hf := ite_t c21 hf
      refine lv_aload_nN hx hb (dc tbX4_readStatement_1_k 0 rfl) rfl (lv_at hl 2 rfl) ?_
      refine lv_ifnullN (tgt := 110) hx hb (dc tbX4_readStatement_1_k 1 rfl) rfl ?_
      exact tX4_readStatement_b110 C hk0 hk1 hih55 x3 x4 M20 hf _ _ _ hI (lv_sub hl [0, 1, 2, 3, 4] rfl)
def mX4_readStatement_l55 (k0 : Nat) (k1 : Nat) : Nat → Int32 → Int32 → Mem → Option (Mem × Unit)
  | 0 => fun _ _ _ => none
  | n + 1 => mX4_readStatement_b55 k0 k1 (mX4_readStatement_l55 k0 k1 n)
theorem tX4_readStatement_l55 {p : Program} {l : Launch} {e : Env} {s : State} {m : MethodId} {args : Array Value} {below : List Frame} {meth : Method} {c : Code} {G : GT} {kd : Nat → Nat × Nat} {ad : Nat → Nat} (C : Cx p s m args meth c cX4_readStatement 5 none RX4 G kd ad) {k0 : Nat} {k1 : Nat} (hk0 : kReader kd k0) (hk1 : kPart kd k1) {MO : Mem} {vo : Unit}   : ∀ (fuel : Nat) (x3 : Int32) (x4 : Int32) (M : Mem), mX4_readStatement_l55 k0 k1 fuel x3 x4 M = some (MO, vo) → At p l e (rmO 6 0 0) s m args below meth c 0 0 (MQ below (Qg G kd ad s.heap.size MO none) args s 0 0 (AS kd ad s.heap.size)) G kd ad 5 55 [(0, .ref (ad k0)), (1, .ref (ad k1)), (2, .null), (3, .int x3), (4, .int x4)] [] M := by
  intro fuel
  induction fuel with
  | zero => intro x3 x4 M hf; cases hf
  | succ n IH => exact tX4_readStatement_b55 C hk0 hk1 IH
def mX4_readStatement_b51 (k0 : Nat) (k1 : Nat) (y0 : Int32) (M : Mem) : Option (Mem × Unit) := mX4_readStatement_l55 k0 k1 5000 y0 (0 : Int32) M
set_option maxHeartbeats 4000000 in
set_option maxRecDepth 100000 in
theorem tX4_readStatement_b51 {p : Program} {l : Launch} {e : Env} {s : State} {m : MethodId} {args : Array Value} {below : List Frame} {meth : Method} {c : Code} {G : GT} {kd : Nat → Nat × Nat} {ad : Nat → Nat} (C : Cx p s m args meth c cX4_readStatement 5 none RX4 G kd ad) {k0 : Nat} {k1 : Nat} (hk0 : kReader kd k0) (hk1 : kPart kd k1) {MO : Mem} {vo : Unit}   : ∀ (y0 : Int32) (M : Mem), mX4_readStatement_b51 k0 k1 y0 M = some (MO, vo) → At p l e (rmO 6 0 0) s m args below meth c 0 0 (MQ below (Qg G kd ad s.heap.size MO none) args s 0 0 (AS kd ad s.heap.size)) G kd ad 5 51 [(0, .ref (ad k0)), (1, .ref (ad k1)), (2, .null)] [.int y0] M := by
  intro y0 M hf H locs ls hI hl
  obtain ⟨hx, hb, hml, hr, hown, hts, hlk, hK, hap, hsx⟩ := id C
  unfold mX4_readStatement_b51 at hf
  refine lv_istore_n (lv' := [(3, .int y0), (0, .ref (ad k0)), (1, .ref (ad k1)), (2, .null)]) hx hb (dc tbX4_readStatement_0_k 27 rfl) rfl hl (by decide) rfl (fun ls hl => ?_)
  refine lv_iconst (v := 0) hx hb (dc tbX4_readStatement_0_k 28 rfl) ic_0 ?_
  refine lv_istore (lv' := [(4, .int (0 : Int32)), (3, .int y0), (0, .ref (ad k0)), (1, .ref (ad k1)), (2, .null)]) hx hb (dc tbX4_readStatement_0_k 29 rfl) hl (by decide) rfl (fun ls hl => ?_)
  exact tX4_readStatement_l55 C hk0 hk1 5000 y0 (0 : Int32) M hf _ _ _ hI (lv_sub hl [2, 3, 4, 1, 0] rfl)
def mX4_readStatement_b32 (k0 : Nat) (k1 : Nat) (M : Mem) : Option (Mem × Unit) := cap (mX4_errorIfNot k0 (2 : Int32) (2 : Int32) M) (fun r3 => mX4_readStatement_b51 k0 k1 r3 M)
set_option maxHeartbeats 4000000 in
set_option maxRecDepth 100000 in
theorem tX4_readStatement_b32 {p : Program} {l : Launch} {e : Env} {s : State} {m : MethodId} {args : Array Value} {below : List Frame} {meth : Method} {c : Code} {G : GT} {kd : Nat → Nat × Nat} {ad : Nat → Nat} (C : Cx p s m args meth c cX4_readStatement 5 none RX4 G kd ad) {k0 : Nat} {k1 : Nat} (hk0 : kReader kd k0) (hk1 : kPart kd k1) {MO : Mem} {vo : Unit}   : ∀  (M : Mem), mX4_readStatement_b32 k0 k1 M = some (MO, vo) → At p l e (rmO 6 0 0) s m args below meth c 0 0 (MQ below (Qg G kd ad s.heap.size MO none) args s 0 0 (AS kd ad s.heap.size)) G kd ad 5 32 [(0, .ref (ad k0)), (1, .ref (ad k1))] [.null] M := by
  intro M hf H locs ls hI hl
  obtain ⟨hx, hb, hml, hr, hown, hts, hlk, hK, hap, hsx⟩ := id C
  unfold mX4_readStatement_b32 at hf
  refine lv_astore_nN (lv' := [(2, .null), (0, .ref (ad k0)), (1, .ref (ad k1))]) hx hb (dc tbX4_readStatement_0_k 16 rfl) rfl hl (by decide) rfl (fun ls hl => ?_)
  refine lv_aload_nN hx hb (dc tbX4_readStatement_0_k 17 rfl) rfl (lv_at hl 0 rfl) ?_
  refine lv_ifnonnullN hx hb (dc tbX4_readStatement_0_k 18 rfl) ?_
  refine lv_aload_n hx hb (dc tbX4_readStatement_0_k 19 rfl) rfl (lv_at hl 1 rfl) ?_
  refine lv_iconst (v := 2) hx hb (dc tbX4_readStatement_0_k 20 rfl) ic_2 ?_
  refine lv_iconst (v := 2) hx hb (dc tbX4_readStatement_0_k 21 rfl) ic_2 ?_
  obtain ⟨r3, q2, hf⟩ := cap_s hf
  refine g_callVi hx hb hml hown hts hK hap hsx hI (tX4_errorIfNot l hk0 q2 H.size) cv_X4_errorIfNot q_t5_165 rfl rfl ⟨Nat.le_of_ble_eq_true rfl, Nat.le_of_ble_eq_true rfl⟩ hk0.1 (by simp) rfl rfl rfl hl.1 rfl (Nat.le_of_ble_eq_true rfl) (dc tbX4_readStatement_0_k 22 rfl) ⟨Nat.le_of_ble_eq_true rfl, Nat.le_of_ble_eq_true rfl⟩ (fun H locs hI => ?_)
  refine lv_goto (tgt := 51) hx hb (dc tbX4_readStatement_0_k 23 rfl) rfl ?_
  exact tX4_readStatement_b51 C hk0 hk1 r3 M hf _ _ _ hI (lv_sub hl [1, 2, 0] rfl)
def mX4_readStatement_b131v1 (k0 : Nat) (k1 : Nat) (w2 : Nat) (x3 : Int32) (M : Mem) : Option (Mem × Unit) := ite2 (x3 = 0) (cal (mX4_accept k0 w2 k1 M) (fun M37 _ => some (M37, ()))) (mX4_readStatement_b148 k0 k1 x3 M)
set_option maxHeartbeats 4000000 in
set_option maxRecDepth 100000 in
theorem tX4_readStatement_b131v1 {p : Program} {l : Launch} {e : Env} {s : State} {m : MethodId} {args : Array Value} {below : List Frame} {meth : Method} {c : Code} {G : GT} {kd : Nat → Nat × Nat} {ad : Nat → Nat} (C : Cx p s m args meth c cX4_readStatement 5 none RX4 G kd ad) {k0 : Nat} {k1 : Nat} {w2 : Nat} (hk0 : kReader kd k0) (hk1 : kPart kd k1) (hw2 : w2 < 11) {MO : Mem} {vo : Unit}   : ∀ (x3 : Int32) (M : Mem), mX4_readStatement_b131v1 k0 k1 w2 x3 M = some (MO, vo) → At p l e (rmO 6 0 0) s m args below meth c 0 0 (MQ below (Qg G kd ad s.heap.size MO none) args s 0 0 (AS kd ad s.heap.size)) G kd ad 5 131 [(0, .ref (ad k0)), (1, .ref (ad k1)), (2, .ref (G.2.2 w2)), (3, .int x3)] [] M := by
  intro x3 M hf H locs ls hI hl
  obtain ⟨hx, hb, hml, hr, hown, hts, hlk, hK, hap, hsx⟩ := id C
  unfold mX4_readStatement_b131v1 at hf
  refine lv_iload_n hx hb (dc tbX4_readStatement_1_k 31 rfl) rfl (lv_at hl 3 rfl) ?_
  refine lv_if_ne (tgt := 148) hx hb (dc tbX4_readStatement_1_k 32 rfl) rfl (fun c34 => ?_) (fun c34 => ?_)
  · have hf := ite_f c34 hf
    exact tX4_readStatement_b148 C hk0 hk1 x3 M hf _ _ _ hI (lv_sub hl [0, 3] rfl)
  · have hf := ite_t c34 hf
    refine lv_aload_n hx hb (dc tbX4_readStatement_1_k 33 rfl) rfl (lv_at hl 2 rfl) ?_
    refine lv_ifnull hx hb (dc tbX4_readStatement_1_k 34 rfl) ?_
    refine lv_aload_n hx hb (dc tbX4_readStatement_1_k 35 rfl) rfl (lv_at hl 0 rfl) ?_
    refine lv_aload_n hx hb (dc tbX4_readStatement_1_k 36 rfl) rfl (lv_at hl 2 rfl) ?_
    refine lv_aload_n hx hb (dc tbX4_readStatement_1_k 37 rfl) rfl (lv_at hl 1 rfl) ?_
    obtain ⟨M37, r36, q35, hf⟩ := cal_s hf
    refine g_callVv hx hb hml hown hts hK hap hsx hI (tX4_accept l hk0 hw2 hk1 q35 H.size) cv_X4_accept q_t5_208 rfl rfl ⟨Nat.le_of_ble_eq_true rfl, Nat.le_of_ble_eq_true rfl⟩ hk0.1 (by simp) rfl rfl rfl hl.1 rfl (Nat.le_of_ble_eq_true rfl) (dc tbX4_readStatement_1_k 38 rfl) ⟨Nat.le_of_ble_eq_true rfl, Nat.le_of_ble_eq_true rfl⟩ (fun H locs hI => ?_)
    refine lv_goto (tgt := 161) hx hb (dc tbX4_readStatement_1_k 39 rfl) rfl ?_
    cases hf
    exact g_vret hx hb hr hlk hI (dc tbX4_readStatement_2_k 7 rfl)
def mX4_readStatement_b110v1 (k0 : Nat) (k1 : Nat) (w2 : Nat) (ih55v1 : Int32 → Int32 → Mem → Option (Mem × Unit)) (x3 : Int32) (x4 : Int32) (M : Mem) : Option (Mem × Unit) := bnd (x4 + (1 : Int32)) (fun x4_110 => ih55v1 x3 x4_110 M)
set_option maxHeartbeats 4000000 in
set_option maxRecDepth 100000 in
theorem tX4_readStatement_b110v1 {p : Program} {l : Launch} {e : Env} {s : State} {m : MethodId} {args : Array Value} {below : List Frame} {meth : Method} {c : Code} {G : GT} {kd : Nat → Nat × Nat} {ad : Nat → Nat} (C : Cx p s m args meth c cX4_readStatement 5 none RX4 G kd ad) {k0 : Nat} {k1 : Nat} {w2 : Nat} (hk0 : kReader kd k0) (hk1 : kPart kd k1) (hw2 : w2 < 11) {MO : Mem} {vo : Unit} {ih55v1 : Int32 → Int32 → Mem → Option (Mem × Unit)} (hih55v1 : ∀ (x3 : Int32) (x4 : Int32) (M : Mem), ih55v1 x3 x4 M = some (MO, vo) → At p l e (rmO 6 0 0) s m args below meth c 0 0 (MQ below (Qg G kd ad s.heap.size MO none) args s 0 0 (AS kd ad s.heap.size)) G kd ad 5 55 [(0, .ref (ad k0)), (1, .ref (ad k1)), (2, .ref (G.2.2 w2)), (3, .int x3), (4, .int x4)] [] M) : ∀ (x3 : Int32) (x4 : Int32) (M : Mem), mX4_readStatement_b110v1 k0 k1 w2 ih55v1 x3 x4 M = some (MO, vo) → At p l e (rmO 6 0 0) s m args below meth c 0 0 (MQ below (Qg G kd ad s.heap.size MO none) args s 0 0 (AS kd ad s.heap.size)) G kd ad 5 110 [(0, .ref (ad k0)), (1, .ref (ad k1)), (2, .ref (G.2.2 w2)), (3, .int x3), (4, .int x4)] [] M := by
  intro x3 x4 M hf H locs ls hI hl
  obtain ⟨hx, hb, hml, hr, hown, hts, hlk, hK, hap, hsx⟩ := id C
  unfold mX4_readStatement_b110v1 at hf
  obtain ⟨x4_110, e48, hf⟩ := bnd_s hf
  refine lv_iinc (v := x4_110) (lv' := [(4, .int x4_110), (0, .ref (ad k0)), (1, .ref (ad k1)), (2, .ref (G.2.2 w2)), (3, .int x3)]) hx hb (dc tbX4_readStatement_1_k 20 rfl) hl (k := 4) rfl (ii_e e48 ic_1) (by decide) rfl (fun ls hl => ?_)
  refine lv_goto (tgt := 55) hx hb (dc tbX4_readStatement_1_k 21 rfl) rfl ?_
  exact hih55v1 x3 x4_110 M hf _ _ _ hI (lv_sub hl [1, 2, 3, 4, 0] rfl)
def mX4_readStatement_b55v1 (k0 : Nat) (k1 : Nat) (w2 : Nat) (ih55v1 : Int32 → Int32 → Mem → Option (Mem × Unit)) (x3 : Int32) (x4 : Int32) (M : Mem) : Option (Mem × Unit) := ite2 ((3 : Int32) ≤ x4) (ite2 (x3 = 0) (cal (mX4_nextToken k0 M) (fun M40 _ => cap (mX4_errorIfNot k0 (4 : Int32) (0 : Int32) M40) (fun r42 => mX4_readStatement_b131v1 k0 k1 w2 r42 M40))) (mX4_readStatement_b131v1 k0 k1 w2 x3 M)) (chk (okb x4 3) (bnd (wr M (k0 + 1) (x4).toNatClampNeg (0 : Int32)) (fun M46 => ite2 (x3 = 0) (cap (mX5_numberCount w2 M46) (fun r50 => ite2 (r50 ≤ x4) (mX4_readStatement_b110v1 k0 k1 w2 ih55v1 x3 x4 M46) (cal (mX4_nextToken k0 M46) (fun M55 _ => cap (mX4_errorOfNumber k0 w2 k1 x4 M55) (fun r57 => chk (okb x4 3) (bnd (wr M55 (k0 + 1) (x4).toNatClampNeg (rd M55 k0 7)) (fun M61 => mX4_readStatement_b110v1 k0 k1 w2 ih55v1 r57 x4 M61))))))) (mX4_readStatement_b110v1 k0 k1 w2 ih55v1 x3 x4 M46))))
set_option maxHeartbeats 4000000 in
set_option maxRecDepth 100000 in
theorem tX4_readStatement_b55v1 {p : Program} {l : Launch} {e : Env} {s : State} {m : MethodId} {args : Array Value} {below : List Frame} {meth : Method} {c : Code} {G : GT} {kd : Nat → Nat × Nat} {ad : Nat → Nat} (C : Cx p s m args meth c cX4_readStatement 5 none RX4 G kd ad) {k0 : Nat} {k1 : Nat} {w2 : Nat} (hk0 : kReader kd k0) (hk1 : kPart kd k1) (hw2 : w2 < 11) {MO : Mem} {vo : Unit} {ih55v1 : Int32 → Int32 → Mem → Option (Mem × Unit)} (hih55v1 : ∀ (x3 : Int32) (x4 : Int32) (M : Mem), ih55v1 x3 x4 M = some (MO, vo) → At p l e (rmO 6 0 0) s m args below meth c 0 0 (MQ below (Qg G kd ad s.heap.size MO none) args s 0 0 (AS kd ad s.heap.size)) G kd ad 5 55 [(0, .ref (ad k0)), (1, .ref (ad k1)), (2, .ref (G.2.2 w2)), (3, .int x3), (4, .int x4)] [] M) : ∀ (x3 : Int32) (x4 : Int32) (M : Mem), mX4_readStatement_b55v1 k0 k1 w2 ih55v1 x3 x4 M = some (MO, vo) → At p l e (rmO 6 0 0) s m args below meth c 0 0 (MQ below (Qg G kd ad s.heap.size MO none) args s 0 0 (AS kd ad s.heap.size)) G kd ad 5 55 [(0, .ref (ad k0)), (1, .ref (ad k1)), (2, .ref (G.2.2 w2)), (3, .int x3), (4, .int x4)] [] M := by
  intro x3 x4 M hf H locs ls hI hl
  obtain ⟨hx, hb, hml, hr, hown, hts, hlk, hK, hap, hsx⟩ := id C
  unfold mX4_readStatement_b55v1 at hf
  refine lv_iload hx hb (dc tbX4_readStatement_0_k 30 rfl) (lv_at hl 4 rfl) ?_
  refine lv_iconst (v := 3) hx hb (dc tbX4_readStatement_0_k 31 rfl) ic_3 ?_
  refine lv_icmp_ge (tgt := 116) hx hb (dc tbX4_readStatement_0_k 32 rfl) rfl (fun c32 => ?_) (fun c32 => ?_)
  · have hf := ite_t c32 hf
    refine lv_iload_n hx hb (dc tbX4_readStatement_1_k 22 rfl) rfl (lv_at hl 3 rfl) ?_
    refine lv_if_ne (tgt := 131) hx hb (dc tbX4_readStatement_1_k 23 rfl) rfl (fun c33 => ?_) (fun c33 => ?_)
    · have hf := ite_f c33 hf
      exact tX4_readStatement_b131v1 C hk0 hk1 hw2 x3 M hf _ _ _ hI (lv_sub hl [0, 1, 2, 3] rfl)
    · have hf := ite_t c33 hf
      refine lv_aload_n hx hb (dc tbX4_readStatement_1_k 24 rfl) rfl (lv_at hl 0 rfl) ?_
      obtain ⟨M40, r39, q38, hf⟩ := cal_s hf
      refine g_callVv hx hb hml hown hts hK hap hsx hI (tX4_nextToken l hk0 q38 H.size) cv_X4_nextToken q_t5_114 rfl rfl ⟨Nat.le_of_ble_eq_true rfl, Nat.le_of_ble_eq_true rfl⟩ hk0.1 (by simp) rfl rfl rfl hl.1 rfl (Nat.le_of_ble_eq_true rfl) (dc tbX4_readStatement_1_k 25 rfl) ⟨Nat.le_of_ble_eq_true rfl, Nat.le_of_ble_eq_true rfl⟩ (fun H locs hI => ?_)
      refine lv_aload_n hx hb (dc tbX4_readStatement_1_k 26 rfl) rfl (lv_at hl 0 rfl) ?_
      refine lv_iconst (v := 4) hx hb (dc tbX4_readStatement_1_k 27 rfl) ic_4 ?_
      refine lv_iconst (v := 0) hx hb (dc tbX4_readStatement_1_k 28 rfl) ic_0 ?_
      obtain ⟨r42, q41, hf⟩ := cap_s hf
      refine g_callVi hx hb hml hown hts hK hap hsx hI (tX4_errorIfNot l hk0 q41 H.size) cv_X4_errorIfNot q_t5_165 rfl rfl ⟨Nat.le_of_ble_eq_true rfl, Nat.le_of_ble_eq_true rfl⟩ hk0.1 (by simp) rfl rfl rfl hl.1 rfl (Nat.le_of_ble_eq_true rfl) (dc tbX4_readStatement_1_k 29 rfl) ⟨Nat.le_of_ble_eq_true rfl, Nat.le_of_ble_eq_true rfl⟩ (fun H locs hI => ?_)
      refine lv_istore_n (lv' := [(3, .int r42), (0, .ref (ad k0)), (1, .ref (ad k1)), (2, .ref (G.2.2 w2)), (4, .int x4)]) hx hb (dc tbX4_readStatement_1_k 30 rfl) rfl hl (by decide) rfl (fun ls hl => ?_)
      exact tX4_readStatement_b131v1 C hk0 hk1 hw2 r42 M40 hf _ _ _ hI (lv_sub hl [1, 2, 3, 0] rfl)
  · have hf := ite_f c32 hf
    refine lv_aload_n hx hb (dc tbX4_readStatement_0_k 33 rfl) rfl (lv_at hl 0 rfl) ?_
    refine gg4_8 hx hb hts hown hK hI hk0.1 q_t1_53 (dc tbX4_readStatement_0_k 34 rfl) ?_
    refine lv_iload hx hb (dc tbX4_readStatement_0_k 35 rfl) (lv_at hl 4 rfl) ?_
    refine lv_iconst (v := 0) hx hb (dc tbX4_readStatement_0_k 36 rfl) ic_0 ?_
    obtain ⟨h44, hf⟩ := chk_s hf
    obtain ⟨M46, e45, hf⟩ := bnd_s hf
    refine g_iast hx hb hK hap hI hk0.2.1 (okb_in h44) (dc tbX4_readStatement_0_k 37 rfl) e45 (fun H locs hI => ?_)
    refine lv_iload_n hx hb (dc tbX4_readStatement_0_k 38 rfl) rfl (lv_at hl 3 rfl) ?_
    refine lv_if_ne (tgt := 110) hx hb (dc tbX4_readStatement_0_k 39 rfl) rfl (fun c47 => ?_) (fun c47 => ?_)
    · have hf := ite_f c47 hf
      exact tX4_readStatement_b110v1 C hk0 hk1 hw2 hih55v1 x3 x4 M46 hf _ _ _ hI (lv_sub hl [0, 1, 2, 3, 4] rfl)
    · have hf := ite_t c47 hf
      refine lv_aload_n hx hb (dc tbX4_readStatement_1_k 0 rfl) rfl (lv_at hl 2 rfl) ?_
      refine lv_ifnull hx hb (dc tbX4_readStatement_1_k 1 rfl) ?_
      refine lv_iload hx hb (dc tbX4_readStatement_1_k 2 rfl) (lv_at hl 4 rfl) ?_
      refine lv_aload_n hx hb (dc tbX4_readStatement_1_k 3 rfl) rfl (lv_at hl 2 rfl) ?_
      obtain ⟨r50, q49, hf⟩ := cap_s hf
      refine g_callWi hx hb hml hown hts hK hap hsx hI (tX5_numberCount l hw2 q49 H.size) cv_X5_numberCount q_t5_185 rfl rfl ⟨Nat.le_of_ble_eq_true rfl, Nat.le_of_ble_eq_true rfl⟩ hw2 rfl hl.1 rfl (Nat.le_of_ble_eq_true rfl) (dc tbX4_readStatement_1_k 4 rfl) ⟨Nat.le_of_ble_eq_true rfl, Nat.le_of_ble_eq_true rfl⟩ (fun H locs hI => ?_)
      refine lv_icmp_ge (tgt := 110) hx hb (dc tbX4_readStatement_1_k 5 rfl) rfl (fun c52 => ?_) (fun c52 => ?_)
      · have hf := ite_t c52 hf
        exact tX4_readStatement_b110v1 C hk0 hk1 hw2 hih55v1 x3 x4 M46 hf _ _ _ hI (lv_sub hl [0, 1, 2, 3, 4] rfl)
      · have hf := ite_f c52 hf
        refine lv_aload_n hx hb (dc tbX4_readStatement_1_k 6 rfl) rfl (lv_at hl 0 rfl) ?_
        obtain ⟨M55, r54, q53, hf⟩ := cal_s hf
        refine g_callVv hx hb hml hown hts hK hap hsx hI (tX4_nextToken l hk0 q53 H.size) cv_X4_nextToken q_t5_114 rfl rfl ⟨Nat.le_of_ble_eq_true rfl, Nat.le_of_ble_eq_true rfl⟩ hk0.1 (by simp) rfl rfl rfl hl.1 rfl (Nat.le_of_ble_eq_true rfl) (dc tbX4_readStatement_1_k 7 rfl) ⟨Nat.le_of_ble_eq_true rfl, Nat.le_of_ble_eq_true rfl⟩ (fun H locs hI => ?_)
        refine lv_aload_n hx hb (dc tbX4_readStatement_1_k 8 rfl) rfl (lv_at hl 0 rfl) ?_
        refine lv_aload_n hx hb (dc tbX4_readStatement_1_k 9 rfl) rfl (lv_at hl 2 rfl) ?_
        refine lv_iload hx hb (dc tbX4_readStatement_1_k 10 rfl) (lv_at hl 4 rfl) ?_
        refine lv_aload_n hx hb (dc tbX4_readStatement_1_k 11 rfl) rfl (lv_at hl 1 rfl) ?_
        obtain ⟨r57, q56, hf⟩ := cap_s hf
        refine g_callVi hx hb hml hown hts hK hap hsx hI (tX4_errorOfNumber l hk0 hw2 hk1 q56 H.size) cv_X4_errorOfNumber q_t5_189 rfl rfl ⟨Nat.le_of_ble_eq_true rfl, Nat.le_of_ble_eq_true rfl⟩ hk0.1 (by simp) rfl rfl rfl hl.1 rfl (Nat.le_of_ble_eq_true rfl) (dc tbX4_readStatement_1_k 12 rfl) ⟨Nat.le_of_ble_eq_true rfl, Nat.le_of_ble_eq_true rfl⟩ (fun H locs hI => ?_)
        refine lv_istore_n (lv' := [(3, .int r57), (0, .ref (ad k0)), (1, .ref (ad k1)), (2, .ref (G.2.2 w2)), (4, .int x4)]) hx hb (dc tbX4_readStatement_1_k 13 rfl) rfl hl (by decide) rfl (fun ls hl => ?_)
        refine lv_aload_n hx hb (dc tbX4_readStatement_1_k 14 rfl) rfl (lv_at hl 1 rfl) ?_
        refine gg4_8 hx hb hts hown hK hI hk0.1 q_t1_53 (dc tbX4_readStatement_1_k 15 rfl) ?_
        refine lv_iload hx hb (dc tbX4_readStatement_1_k 16 rfl) (lv_at hl 4 rfl) ?_
        refine lv_aload_n hx hb (dc tbX4_readStatement_1_k 17 rfl) rfl (lv_at hl 1 rfl) ?_
        refine gg4_7 hx hb hts hown hK hI hk0.1 q_t1_52 (dc tbX4_readStatement_1_k 18 rfl) ?_
        obtain ⟨h59, hf⟩ := chk_s hf
        obtain ⟨M61, e60, hf⟩ := bnd_s hf
        refine g_iast hx hb hK hap hI hk0.2.1 (okb_in h59) (dc tbX4_readStatement_1_k 19 rfl) e60 (fun H locs hI => ?_)
        exact tX4_readStatement_b110v1 C hk0 hk1 hw2 hih55v1 r57 x4 M61 hf _ _ _ hI (lv_sub hl [1, 2, 3, 0, 4] rfl)
def mX4_readStatement_l55v1 (k0 : Nat) (k1 : Nat) (w2 : Nat) : Nat → Int32 → Int32 → Mem → Option (Mem × Unit)
  | 0 => fun _ _ _ => none
  | n + 1 => mX4_readStatement_b55v1 k0 k1 w2 (mX4_readStatement_l55v1 k0 k1 w2 n)
theorem tX4_readStatement_l55v1 {p : Program} {l : Launch} {e : Env} {s : State} {m : MethodId} {args : Array Value} {below : List Frame} {meth : Method} {c : Code} {G : GT} {kd : Nat → Nat × Nat} {ad : Nat → Nat} (C : Cx p s m args meth c cX4_readStatement 5 none RX4 G kd ad) {k0 : Nat} {k1 : Nat} {w2 : Nat} (hk0 : kReader kd k0) (hk1 : kPart kd k1) (hw2 : w2 < 11) {MO : Mem} {vo : Unit}   : ∀ (fuel : Nat) (x3 : Int32) (x4 : Int32) (M : Mem), mX4_readStatement_l55v1 k0 k1 w2 fuel x3 x4 M = some (MO, vo) → At p l e (rmO 6 0 0) s m args below meth c 0 0 (MQ below (Qg G kd ad s.heap.size MO none) args s 0 0 (AS kd ad s.heap.size)) G kd ad 5 55 [(0, .ref (ad k0)), (1, .ref (ad k1)), (2, .ref (G.2.2 w2)), (3, .int x3), (4, .int x4)] [] M := by
  intro fuel
  induction fuel with
  | zero => intro x3 x4 M hf; cases hf
  | succ n IH => exact tX4_readStatement_b55v1 C hk0 hk1 hw2 IH
def mX4_readStatement_b51v1 (k0 : Nat) (k1 : Nat) (w2 : Nat) (y0 : Int32) (M : Mem) : Option (Mem × Unit) := mX4_readStatement_l55v1 k0 k1 w2 5000 y0 (0 : Int32) M
set_option maxHeartbeats 4000000 in
set_option maxRecDepth 100000 in
theorem tX4_readStatement_b51v1 {p : Program} {l : Launch} {e : Env} {s : State} {m : MethodId} {args : Array Value} {below : List Frame} {meth : Method} {c : Code} {G : GT} {kd : Nat → Nat × Nat} {ad : Nat → Nat} (C : Cx p s m args meth c cX4_readStatement 5 none RX4 G kd ad) {k0 : Nat} {k1 : Nat} {w2 : Nat} (hk0 : kReader kd k0) (hk1 : kPart kd k1) (hw2 : w2 < 11) {MO : Mem} {vo : Unit}   : ∀ (y0 : Int32) (M : Mem), mX4_readStatement_b51v1 k0 k1 w2 y0 M = some (MO, vo) → At p l e (rmO 6 0 0) s m args below meth c 0 0 (MQ below (Qg G kd ad s.heap.size MO none) args s 0 0 (AS kd ad s.heap.size)) G kd ad 5 51 [(0, .ref (ad k0)), (1, .ref (ad k1)), (2, .ref (G.2.2 w2))] [.int y0] M := by
  intro y0 M hf H locs ls hI hl
  obtain ⟨hx, hb, hml, hr, hown, hts, hlk, hK, hap, hsx⟩ := id C
  unfold mX4_readStatement_b51v1 at hf
  refine lv_istore_n (lv' := [(3, .int y0), (0, .ref (ad k0)), (1, .ref (ad k1)), (2, .ref (G.2.2 w2))]) hx hb (dc tbX4_readStatement_0_k 27 rfl) rfl hl (by decide) rfl (fun ls hl => ?_)
  refine lv_iconst (v := 0) hx hb (dc tbX4_readStatement_0_k 28 rfl) ic_0 ?_
  refine lv_istore (lv' := [(4, .int (0 : Int32)), (3, .int y0), (0, .ref (ad k0)), (1, .ref (ad k1)), (2, .ref (G.2.2 w2))]) hx hb (dc tbX4_readStatement_0_k 29 rfl) hl (by decide) rfl (fun ls hl => ?_)
  exact tX4_readStatement_l55v1 C hk0 hk1 hw2 5000 y0 (0 : Int32) M hf _ _ _ hI (lv_sub hl [2, 3, 4, 1, 0] rfl)
def mX4_readStatement_b32v1 (k0 : Nat) (k1 : Nat) (ws0 : Nat) (M : Mem) : Option (Mem × Unit) := cap (mX4_errorOfWord ws0 k1 M) (fun r30 => mX4_readStatement_b51v1 k0 k1 ws0 r30 M)
set_option maxHeartbeats 4000000 in
set_option maxRecDepth 100000 in
theorem tX4_readStatement_b32v1 {p : Program} {l : Launch} {e : Env} {s : State} {m : MethodId} {args : Array Value} {below : List Frame} {meth : Method} {c : Code} {G : GT} {kd : Nat → Nat × Nat} {ad : Nat → Nat} (C : Cx p s m args meth c cX4_readStatement 5 none RX4 G kd ad) {k0 : Nat} {k1 : Nat} {ws0 : Nat} (hk0 : kReader kd k0) (hk1 : kPart kd k1) (hws0 : ws0 < 11) {MO : Mem} {vo : Unit}   : ∀  (M : Mem), mX4_readStatement_b32v1 k0 k1 ws0 M = some (MO, vo) → At p l e (rmO 6 0 0) s m args below meth c 0 0 (MQ below (Qg G kd ad s.heap.size MO none) args s 0 0 (AS kd ad s.heap.size)) G kd ad 5 32 [(0, .ref (ad k0)), (1, .ref (ad k1))] [.ref (G.2.2 ws0)] M := by
  intro M hf H locs ls hI hl
  obtain ⟨hx, hb, hml, hr, hown, hts, hlk, hK, hap, hsx⟩ := id C
  unfold mX4_readStatement_b32v1 at hf
  refine lv_astore_n (lv' := [(2, .ref (G.2.2 ws0)), (0, .ref (ad k0)), (1, .ref (ad k1))]) hx hb (dc tbX4_readStatement_0_k 16 rfl) rfl hl (by decide) rfl (fun ls hl => ?_)
  refine lv_aload_n hx hb (dc tbX4_readStatement_0_k 17 rfl) rfl (lv_at hl 0 rfl) ?_
  refine lv_ifnonnull (tgt := 46) hx hb (dc tbX4_readStatement_0_k 18 rfl) rfl ?_
  refine lv_aload_n hx hb (dc tbX4_readStatement_0_k 24 rfl) rfl (lv_at hl 0 rfl) ?_
  refine lv_aload_n hx hb (dc tbX4_readStatement_0_k 25 rfl) rfl (lv_at hl 2 rfl) ?_
  obtain ⟨r30, q29, hf⟩ := cap_s hf
  refine g_callSi hx hb hml hown hts hK hap hsx hI (tX4_errorOfWord l hws0 hk1 q29 H.size) cs_X4_errorOfWord q_t5_169 rfl rfl ⟨Nat.le_of_ble_eq_true rfl, Nat.le_of_ble_eq_true rfl⟩ rfl hl.1 rfl (Nat.le_of_ble_eq_true rfl) (dc tbX4_readStatement_0_k 26 rfl) ⟨Nat.le_of_ble_eq_true rfl, Nat.le_of_ble_eq_true rfl⟩ (fun H locs hI => ?_)
  exact tX4_readStatement_b51v1 C hk0 hk1 hws0 r30 M hf _ _ _ hI (lv_sub hl [1, 2, 0] rfl)
def mX4_readStatement (k0 : Nat) (k1 : Nat) (M : Mem) : Option (Mem × Unit) := ite2 ((rd M k0 6) = (2 : Int32)) (chk (decide (rd M k0 2 = 1)) (cap (mX5_find 1 (rd M k0 4) ((rd M k0 5) - (rd M k0 4)) M) (fun r25 => opt r25 (mX4_readStatement_b32 k0 k1 M) (fun w27 => chk (decide (w27 < 11)) (mX4_readStatement_b32v1 k0 k1 w27 M))))) (mX4_readStatement_b32 k0 k1 M)
set_option maxHeartbeats 4000000 in
set_option maxRecDepth 100000 in
theorem tX4_readStatement (l : Launch) {G : GT} {kd : Nat → Nat × Nat} {ad : Nat → Nat} {k0 : Nat} {k1 : Nat} (hk0 : kReader kd k0) (hk1 : kPart kd k1) {M : Mem} {MO : Mem} {vo : Unit} (hf : mX4_readStatement k0 k1 M = some (MO, vo)) (n : Nat) : Met l yX4_readStatement (Cond.code yX4_readStatement cX4_readStatement 5 none :: WA) (rmO 6 0 0) (Pg G kd ad n [.ref (ad k0), .ref (ad k1)] M) (Qg G kd ad n MO none) 0 0 (AS kd ad n) := by
  refine g_body (own := RX4) (by decide) rfl ?_ (Nat.le_of_ble_eq_true rfl)
  intro p e s m args below meth c C _ H locs ls hI hl
  obtain ⟨hx, hb, hml, hr, hown, hts, hlk, hK, hap, hsx⟩ := id C
  have hl : lv_has ls 5 [(0, .ref (ad k0)), (1, .ref (ad k1))] := hl
  unfold mX4_readStatement at hf
  refine lv_aload_n hx hb (dc tbX4_readStatement_0_k 0 rfl) rfl (lv_at hl 0 rfl) ?_
  refine gg4_6 hx hb hts hown hK hI hk0.1 q_t1_51 (dc tbX4_readStatement_0_k 1 rfl) ?_
  refine lv_iconst (v := 2) hx hb (dc tbX4_readStatement_0_k 2 rfl) ic_2 ?_
  refine lv_icmp_ne (tgt := 31) hx hb (dc tbX4_readStatement_0_k 3 rfl) rfl (fun c1 => ?_) (fun c1 => ?_)
  · have hf := ite_f c1 hf
    refine lv_null hx hb (dc tbX4_readStatement_0_k 15 rfl) ?_
    exact tX4_readStatement_b32 C hk0 hk1 M hf _ _ _ hI (lv_sub hl [0, 1] rfl)
  · have hf := ite_t c1 hf
    refine lv_aload_n hx hb (dc tbX4_readStatement_0_k 4 rfl) rfl (lv_at hl 0 rfl) ?_
    obtain ⟨h23, hf⟩ := chk_s hf
    refine gg4_2 hx hb hts hown hK hI hk0.1 q_t1_47 (dc tbX4_readStatement_0_k 5 rfl) ?_
    rw [byt_b h23]
    refine lv_aload_n hx hb (dc tbX4_readStatement_0_k 6 rfl) rfl (lv_at hl 0 rfl) ?_
    refine gg4_4 hx hb hts hown hK hI hk0.1 q_t1_49 (dc tbX4_readStatement_0_k 7 rfl) ?_
    refine lv_aload_n hx hb (dc tbX4_readStatement_0_k 8 rfl) rfl (lv_at hl 0 rfl) ?_
    refine gg4_5 hx hb hts hown hK hI hk0.1 q_t1_50 (dc tbX4_readStatement_0_k 9 rfl) ?_
    refine lv_aload_n hx hb (dc tbX4_readStatement_0_k 10 rfl) rfl (lv_at hl 0 rfl) ?_
    refine gg4_4 hx hb hts hown hK hI hk0.1 q_t1_49 (dc tbX4_readStatement_0_k 11 rfl) ?_
    refine lv_isub hx hb (dc tbX4_readStatement_0_k 12 rfl) ?_
    obtain ⟨r25, q24, hf⟩ := cap_s hf
    refine g_callSr hx hb hml hown hts hK hap hsx hI (tX5_find l hk0.2.2 q24 H.size) cs_X5_find q_t5_139 rfl rfl ⟨Nat.le_of_ble_eq_true rfl, Nat.le_of_ble_eq_true rfl⟩ rfl hl.1 rfl (Nat.le_of_ble_eq_true rfl) (dc tbX4_readStatement_0_k 13 rfl) ⟨Nat.le_of_ble_eq_true rfl, Nat.le_of_ble_eq_true rfl⟩ (fun H locs hI => ?_)
    rcases opt_s hf with ⟨e62, g63⟩ | ⟨w27, e62, g63⟩
    · subst e62
      have hf := g63
      refine lv_wn ?_
      refine lv_goto (tgt := 32) hx hb (dc tbX4_readStatement_0_k 14 rfl) rfl ?_
      exact tX4_readStatement_b32 C hk0 hk1 M hf _ _ _ hI (lv_sub hl [0, 1] rfl)
    · subst e62
      obtain ⟨h28, hf⟩ := chk_s g63
      refine lv_ws ?_
      refine lv_goto (tgt := 32) hx hb (dc tbX4_readStatement_0_k 14 rfl) rfl ?_
      exact tX4_readStatement_b32v1 C hk0 hk1 (of_decide_eq_true h28) M hf _ _ _ hI (lv_sub hl [0, 1] rfl)
theorem cv_X4_readStatement : cvF RX4 yX4_readStatement cX4_readStatement 5 none 1 := ⟨q_t5_137, q_s2_6, q_t1_2, q_t5_138, by decide +kernel⟩
def mX4_readText_b84 (k0 : Nat) (k1 : Nat) (k2 : Nat) (M : Mem) : Option (Mem × Int32) := ite2 ((rd M k0 0) = 0) (some (M, (1 : Int32))) (some (M, (0 : Int32)))
set_option maxHeartbeats 4000000 in
set_option maxRecDepth 100000 in
theorem tX4_readText_b84 {p : Program} {l : Launch} {e : Env} {s : State} {m : MethodId} {args : Array Value} {below : List Frame} {meth : Method} {c : Code} {G : GT} {kd : Nat → Nat × Nat} {ad : Nat → Nat} (C : Cx p s m args meth c cX4_readText 5 (some .boolean) RX4 G kd ad) {k0 : Nat} {k1 : Nat} {k2 : Nat} (hk0 : kReader kd k0) (hk1 : kd k1 = (11, 600)) (hk2 : kPart kd k2) {MO : Mem} {vo : Int32}   : ∀  (M : Mem), mX4_readText_b84 k0 k1 k2 M = some (MO, vo) → At p l e (rmO 7 0 0) s m args below meth c 0 0 (MQ below (Qg G kd ad s.heap.size MO (some (.int vo))) args s 0 0 (AS kd ad s.heap.size)) G kd ad 5 84 [(0, .ref (ad k0))] [] M := by
  intro M hf H locs ls hI hl
  obtain ⟨hx, hb, hml, hr, hown, hts, hlk, hK, hap, hsx⟩ := id C
  unfold mX4_readText_b84 at hf
  refine lv_aload_n hx hb (dc tbX4_readText_1_k 4 rfl) rfl (lv_at hl 0 rfl) ?_
  refine gg4_0 hx hb hts hown hK hI hk0.1 q_t1_43 (dc tbX4_readText_1_k 5 rfl) ?_
  refine lv_if_ne (tgt := 95) hx hb (dc tbX4_readText_1_k 6 rfl) rfl (fun c20 => ?_) (fun c20 => ?_)
  · have hf := ite_f c20 hf
    refine lv_iconst (v := 0) hx hb (dc tbX4_readText_1_k 9 rfl) ic_0 ?_
    cases hf
    exact g_zret hx hb hr hlk hI rfl (dc tbX4_readText_1_k 10 rfl)
  · have hf := ite_t c20 hf
    refine lv_iconst (v := 1) hx hb (dc tbX4_readText_1_k 7 rfl) ic_1 ?_
    refine lv_goto (tgt := 96) hx hb (dc tbX4_readText_1_k 8 rfl) rfl ?_
    cases hf
    exact g_zret hx hb hr hlk hI rfl (dc tbX4_readText_1_k 10 rfl)
def mX4_readText_b47 (k0 : Nat) (k1 : Nat) (k2 : Nat) (ih47 : Int32 → Mem → Option (Mem × Int32)) (x4 : Int32) (M : Mem) : Option (Mem × Int32) := ite2 ((600 : Int32) ≤ x4) (mX4_readText_b84 k0 k1 k2 M) (ite2 ((rd M k0 6) = 0) (mX4_readText_b84 k0 k1 k2 M) (ite2 ((rd M k0 0) = 0) (cal (mX4_readStatement k0 k2 M) (fun M25 _ => cal (mX4_nextToken k0 M25) (fun M28 _ => bnd (x4 + (1 : Int32)) (fun x4_78 => ih47 x4_78 M28)))) (mX4_readText_b84 k0 k1 k2 M)))
set_option maxHeartbeats 4000000 in
set_option maxRecDepth 100000 in
theorem tX4_readText_b47 {p : Program} {l : Launch} {e : Env} {s : State} {m : MethodId} {args : Array Value} {below : List Frame} {meth : Method} {c : Code} {G : GT} {kd : Nat → Nat × Nat} {ad : Nat → Nat} (C : Cx p s m args meth c cX4_readText 5 (some .boolean) RX4 G kd ad) {k0 : Nat} {k1 : Nat} {k2 : Nat} (hk0 : kReader kd k0) (hk1 : kd k1 = (11, 600)) (hk2 : kPart kd k2) {MO : Mem} {vo : Int32} {ih47 : Int32 → Mem → Option (Mem × Int32)} (hih47 : ∀ (x4 : Int32) (M : Mem), ih47 x4 M = some (MO, vo) → At p l e (rmO 7 0 0) s m args below meth c 0 0 (MQ below (Qg G kd ad s.heap.size MO (some (.int vo))) args s 0 0 (AS kd ad s.heap.size)) G kd ad 5 47 [(0, .ref (ad k0)), (3, .ref (ad k2)), (4, .int x4)] [] M) : ∀ (x4 : Int32) (M : Mem), mX4_readText_b47 k0 k1 k2 ih47 x4 M = some (MO, vo) → At p l e (rmO 7 0 0) s m args below meth c 0 0 (MQ below (Qg G kd ad s.heap.size MO (some (.int vo))) args s 0 0 (AS kd ad s.heap.size)) G kd ad 5 47 [(0, .ref (ad k0)), (3, .ref (ad k2)), (4, .int x4)] [] M := by
  intro x4 M hf H locs ls hI hl
  obtain ⟨hx, hb, hml, hr, hown, hts, hlk, hK, hap, hsx⟩ := id C
  unfold mX4_readText_b47 at hf
  refine lv_iload hx hb (dc tbX4_readText_0_k 28 rfl) (lv_at hl 2 rfl) ?_
  refine lv_sipush (v := 600) hx hb (dc tbX4_readText_0_k 29 rfl) sp_600 ?_
  refine lv_icmp_ge (tgt := 84) hx hb (dc tbX4_readText_0_k 30 rfl) rfl (fun c19 => ?_) (fun c19 => ?_)
  · have hf := ite_t c19 hf
    exact tX4_readText_b84 C hk0 hk1 hk2 M hf _ _ _ hI (lv_sub hl [0] rfl)
  · have hf := ite_f c19 hf
    refine lv_aload_n hx hb (dc tbX4_readText_0_k 31 rfl) rfl (lv_at hl 0 rfl) ?_
    refine gg4_6 hx hb hts hown hK hI hk0.1 q_t1_51 (dc tbX4_readText_0_k 32 rfl) ?_
    refine lv_if_eq (tgt := 84) hx hb (dc tbX4_readText_0_k 33 rfl) rfl (fun c21 => ?_) (fun c21 => ?_)
    · have hf := ite_t c21 hf
      exact tX4_readText_b84 C hk0 hk1 hk2 M hf _ _ _ hI (lv_sub hl [0] rfl)
    · have hf := ite_f c21 hf
      refine lv_aload_n hx hb (dc tbX4_readText_0_k 34 rfl) rfl (lv_at hl 0 rfl) ?_
      refine gg4_0 hx hb hts hown hK hI hk0.1 q_t1_43 (dc tbX4_readText_0_k 35 rfl) ?_
      refine lv_if_ne (tgt := 84) hx hb (dc tbX4_readText_0_k 36 rfl) rfl (fun c22 => ?_) (fun c22 => ?_)
      · have hf := ite_f c22 hf
        exact tX4_readText_b84 C hk0 hk1 hk2 M hf _ _ _ hI (lv_sub hl [0] rfl)
      · have hf := ite_t c22 hf
        refine lv_aload_n hx hb (dc tbX4_readText_0_k 37 rfl) rfl (lv_at hl 0 rfl) ?_
        refine lv_aload_n hx hb (dc tbX4_readText_0_k 38 rfl) rfl (lv_at hl 1 rfl) ?_
        obtain ⟨M25, r24, q23, hf⟩ := cal_s hf
        refine g_callVv hx hb hml hown hts hK hap hsx hI (tX4_readStatement l hk0 hk2 q23 H.size) cv_X4_readStatement q_t5_135 rfl rfl ⟨Nat.le_of_ble_eq_true rfl, Nat.le_of_ble_eq_true rfl⟩ hk0.1 (by simp) rfl rfl rfl hl.1 rfl (Nat.le_of_ble_eq_true rfl) (dc tbX4_readText_0_k 39 rfl) ⟨Nat.le_of_ble_eq_true rfl, Nat.le_of_ble_eq_true rfl⟩ (fun H locs hI => ?_)
        refine lv_aload_n hx hb (dc tbX4_readText_1_k 0 rfl) rfl (lv_at hl 0 rfl) ?_
        obtain ⟨M28, r27, q26, hf⟩ := cal_s hf
        refine g_callVv hx hb hml hown hts hK hap hsx hI (tX4_nextToken l hk0 q26 H.size) cv_X4_nextToken q_t5_114 rfl rfl ⟨Nat.le_of_ble_eq_true rfl, Nat.le_of_ble_eq_true rfl⟩ hk0.1 (by simp) rfl rfl rfl hl.1 rfl (Nat.le_of_ble_eq_true rfl) (dc tbX4_readText_1_k 1 rfl) ⟨Nat.le_of_ble_eq_true rfl, Nat.le_of_ble_eq_true rfl⟩ (fun H locs hI => ?_)
        obtain ⟨x4_78, e29, hf⟩ := bnd_s hf
        refine lv_iinc (v := x4_78) (lv' := [(4, .int x4_78), (0, .ref (ad k0)), (3, .ref (ad k2))]) hx hb (dc tbX4_readText_1_k 2 rfl) hl (k := 2) rfl (ii_e e29 ic_1) (by decide) rfl (fun ls hl => ?_)
        refine lv_goto (tgt := 47) hx hb (dc tbX4_readText_1_k 3 rfl) rfl ?_
        exact hih47 x4_78 M28 hf _ _ _ hI (lv_sub hl [1, 2, 0] rfl)
def mX4_readText_l47 (k0 : Nat) (k1 : Nat) (k2 : Nat) : Nat → Int32 → Mem → Option (Mem × Int32)
  | 0 => fun _ _ => none
  | n + 1 => mX4_readText_b47 k0 k1 k2 (mX4_readText_l47 k0 k1 k2 n)
theorem tX4_readText_l47 {p : Program} {l : Launch} {e : Env} {s : State} {m : MethodId} {args : Array Value} {below : List Frame} {meth : Method} {c : Code} {G : GT} {kd : Nat → Nat × Nat} {ad : Nat → Nat} (C : Cx p s m args meth c cX4_readText 5 (some .boolean) RX4 G kd ad) {k0 : Nat} {k1 : Nat} {k2 : Nat} (hk0 : kReader kd k0) (hk1 : kd k1 = (11, 600)) (hk2 : kPart kd k2) {MO : Mem} {vo : Int32}   : ∀ (fuel : Nat) (x4 : Int32) (M : Mem), mX4_readText_l47 k0 k1 k2 fuel x4 M = some (MO, vo) → At p l e (rmO 7 0 0) s m args below meth c 0 0 (MQ below (Qg G kd ad s.heap.size MO (some (.int vo))) args s 0 0 (AS kd ad s.heap.size)) G kd ad 5 47 [(0, .ref (ad k0)), (3, .ref (ad k2)), (4, .int x4)] [] M := by
  intro fuel
  induction fuel with
  | zero => intro x4 M hf; cases hf
  | succ n IH => exact tX4_readText_b47 C hk0 hk1 hk2 IH
def mX4_readText_b18 (k0 : Nat) (k1 : Nat) (k2 : Nat) (y1 : Int32) (M : Mem) : Option (Mem × Int32) := bnd (wr M k0 3 y1) (fun M5 => bnd (wr M5 k0 5 (0 : Int32)) (fun M7 => bnd (wr M7 k0 0 (0 : Int32)) (fun M9 => bnd (wr M9 k0 1 (-1 : Int32)) (fun M11 => cal (mX1_clear k2 M11) (fun M15 _ => cal (mX4_nextToken k0 M15) (fun M18 _ => mX4_readText_l47 k0 k1 k2 5000 (0 : Int32) M18))))))
set_option maxHeartbeats 4000000 in
set_option maxRecDepth 100000 in
theorem tX4_readText_b18 {p : Program} {l : Launch} {e : Env} {s : State} {m : MethodId} {args : Array Value} {below : List Frame} {meth : Method} {c : Code} {G : GT} {kd : Nat → Nat × Nat} {ad : Nat → Nat} (C : Cx p s m args meth c cX4_readText 5 (some .boolean) RX4 G kd ad) {k0 : Nat} {k1 : Nat} {k2 : Nat} (hk0 : kReader kd k0) (hk1 : kd k1 = (11, 600)) (hk2 : kPart kd k2) {MO : Mem} {vo : Int32}   : ∀ (y1 : Int32) (M : Mem), mX4_readText_b18 k0 k1 k2 y1 M = some (MO, vo) → At p l e (rmO 7 0 0) s m args below meth c 0 0 (MQ below (Qg G kd ad s.heap.size MO (some (.int vo))) args s 0 0 (AS kd ad s.heap.size)) G kd ad 5 18 [(0, .ref (ad k0)), (3, .ref (ad k2))] [.int y1, .ref (ad k0)] M := by
  intro y1 M hf H locs ls hI hl
  obtain ⟨hx, hb, hml, hr, hown, hts, hlk, hK, hap, hsx⟩ := id C
  unfold mX4_readText_b18 at hf
  obtain ⟨M5, e6, hf⟩ := bnd_s hf
  refine gp4_3 hx hb hts hown hK hap hI hk0.1 q_t1_48 (dc tbX4_readText_0_k 12 rfl) e6 (fun H locs hI => ?_)
  refine lv_aload_n hx hb (dc tbX4_readText_0_k 13 rfl) rfl (lv_at hl 0 rfl) ?_
  refine lv_iconst (v := 0) hx hb (dc tbX4_readText_0_k 14 rfl) ic_0 ?_
  obtain ⟨M7, e8, hf⟩ := bnd_s hf
  refine gp4_5 hx hb hts hown hK hap hI hk0.1 q_t1_50 (dc tbX4_readText_0_k 15 rfl) e8 (fun H locs hI => ?_)
  refine lv_aload_n hx hb (dc tbX4_readText_0_k 16 rfl) rfl (lv_at hl 0 rfl) ?_
  refine lv_iconst (v := 0) hx hb (dc tbX4_readText_0_k 17 rfl) ic_0 ?_
  obtain ⟨M9, e10, hf⟩ := bnd_s hf
  refine gp4_0 hx hb hts hown hK hap hI hk0.1 q_t1_43 (dc tbX4_readText_0_k 18 rfl) e10 (fun H locs hI => ?_)
  refine lv_aload_n hx hb (dc tbX4_readText_0_k 19 rfl) rfl (lv_at hl 0 rfl) ?_
  refine lv_iconst (v := -1) hx hb (dc tbX4_readText_0_k 20 rfl) ic_m1 ?_
  obtain ⟨M11, e12, hf⟩ := bnd_s hf
  refine gp4_1 hx hb hts hown hK hap hI hk0.1 q_t1_45 (dc tbX4_readText_0_k 21 rfl) e12 (fun H locs hI => ?_)
  refine lv_aload_n hx hb (dc tbX4_readText_0_k 22 rfl) rfl (lv_at hl 1 rfl) ?_
  obtain ⟨M15, r14, q13, hf⟩ := cal_s hf
  refine g_callVv hx hb hml hown hts hK hap hsx hI (tX1_clear l hk2 q13 H.size) cv_X1_clear q_t5_113 rfl rfl ⟨Nat.le_of_ble_eq_true rfl, Nat.le_of_ble_eq_true rfl⟩ hk2.1 (by simp) rfl rfl rfl hl.1 rfl (Nat.le_of_ble_eq_true rfl) (dc tbX4_readText_0_k 23 rfl) ⟨Nat.le_of_ble_eq_true rfl, Nat.le_of_ble_eq_true rfl⟩ (fun H locs hI => ?_)
  refine lv_aload_n hx hb (dc tbX4_readText_0_k 24 rfl) rfl (lv_at hl 0 rfl) ?_
  obtain ⟨M18, r17, q16, hf⟩ := cal_s hf
  refine g_callVv hx hb hml hown hts hK hap hsx hI (tX4_nextToken l hk0 q16 H.size) cv_X4_nextToken q_t5_114 rfl rfl ⟨Nat.le_of_ble_eq_true rfl, Nat.le_of_ble_eq_true rfl⟩ hk0.1 (by simp) rfl rfl rfl hl.1 rfl (Nat.le_of_ble_eq_true rfl) (dc tbX4_readText_0_k 25 rfl) ⟨Nat.le_of_ble_eq_true rfl, Nat.le_of_ble_eq_true rfl⟩ (fun H locs hI => ?_)
  refine lv_iconst (v := 0) hx hb (dc tbX4_readText_0_k 26 rfl) ic_0 ?_
  refine lv_istore (lv' := [(4, .int (0 : Int32)), (0, .ref (ad k0)), (3, .ref (ad k2))]) hx hb (dc tbX4_readText_0_k 27 rfl) hl (by decide) rfl (fun ls hl => ?_)
  exact tX4_readText_l47 C hk0 hk1 hk2 5000 (0 : Int32) M18 hf _ _ _ hI (lv_sub hl [1, 2, 0] rfl)
def mX4_readText (k0 : Nat) (k1 : Nat) (k2 : Nat) (x2 : Int32) (M : Mem) : Option (Mem × Int32) := chk (decide (k1 = 1)) (bnd (wr M k0 2 1) (fun M1 => ite2 ((600 : Int32) < x2) (mX4_readText_b18 k0 k1 k2 (600 : Int32) M1) (mX4_readText_b18 k0 k1 k2 x2 M1)))
set_option maxHeartbeats 4000000 in
set_option maxRecDepth 100000 in
theorem tX4_readText (l : Launch) {G : GT} {kd : Nat → Nat × Nat} {ad : Nat → Nat} {k0 : Nat} {k1 : Nat} {k2 : Nat} (hk0 : kReader kd k0) (hk1 : kd k1 = (11, 600)) (hk2 : kPart kd k2) {x2 : Int32} {M : Mem} {MO : Mem} {vo : Int32} (hf : mX4_readText k0 k1 k2 x2 M = some (MO, vo)) (n : Nat) : Met l yX4_readText (Cond.code yX4_readText cX4_readText 5 (some .boolean) :: WA) (rmO 7 0 0) (Pg G kd ad n [.ref (ad k0), .ref (ad k1), .int x2, .ref (ad k2)] M) (Qg G kd ad n MO (some (.int vo))) 0 0 (AS kd ad n) := by
  refine g_body (own := RX4) (by decide) rfl ?_ (Nat.le_of_ble_eq_true rfl)
  intro p e s m args below meth c C _ H locs ls hI hl
  obtain ⟨hx, hb, hml, hr, hown, hts, hlk, hK, hap, hsx⟩ := id C
  have hl : lv_has ls 5 [(0, .ref (ad k0)), (1, .ref (ad k1)), (2, .int x2), (3, .ref (ad k2))] := hl
  unfold mX4_readText at hf
  refine lv_aload_n hx hb (dc tbX4_readText_0_k 0 rfl) rfl (lv_at hl 0 rfl) ?_
  refine lv_aload_n hx hb (dc tbX4_readText_0_k 1 rfl) rfl (lv_at hl 1 rfl) ?_
  obtain ⟨h3, hf⟩ := chk_s hf
  obtain ⟨M1, e2, hf⟩ := bnd_s hf
  refine gp4_2 hx hb hts hown hK hap hI hk0.1 q_t1_47 (dc tbX4_readText_0_k 2 rfl) (of_decide_eq_true h3) e2 (fun H locs hI => ?_)
  refine lv_aload_n hx hb (dc tbX4_readText_0_k 3 rfl) rfl (lv_at hl 0 rfl) ?_
  refine lv_iload_n hx hb (dc tbX4_readText_0_k 4 rfl) rfl (lv_at hl 2 rfl) ?_
  refine lv_aload_n hx hb (dc tbX4_readText_0_k 5 rfl) rfl (lv_at hl 1 rfl) ?_
  refine g_alenB hx hb hK hI hk1 (v := 600) (by decide) (dc tbX4_readText_0_k 6 rfl) ?_
  refine lv_icmp_gt (tgt := 16) hx hb (dc tbX4_readText_0_k 7 rfl) rfl (fun c4 => ?_) (fun c4 => ?_)
  · have hf := ite_t c4 hf
    refine lv_aload_n hx hb (dc tbX4_readText_0_k 10 rfl) rfl (lv_at hl 1 rfl) ?_
    refine g_alenB hx hb hK hI hk1 (v := 600) (by decide) (dc tbX4_readText_0_k 11 rfl) ?_
    exact tX4_readText_b18 C hk0 hk1 hk2 (600 : Int32) M1 hf _ _ _ hI (lv_sub hl [0, 3] rfl)
  · have hf := ite_f c4 hf
    refine lv_iload_n hx hb (dc tbX4_readText_0_k 8 rfl) rfl (lv_at hl 2 rfl) ?_
    refine lv_goto (tgt := 18) hx hb (dc tbX4_readText_0_k 9 rfl) rfl ?_
    exact tX4_readText_b18 C hk0 hk1 hk2 x2 M1 hf _ _ _ hI (lv_sub hl [0, 3] rfl)
theorem cv_X4_readText : cvF RX4 yX4_readText cX4_readText 5 (some .boolean) 3 := ⟨q_t5_110, q_t5_111, q_t1_2, q_t5_112, by decide +kernel⟩
