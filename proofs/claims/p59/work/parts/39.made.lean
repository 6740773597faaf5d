/-! made strings and builders: what the JDK does -/
theorem t_of {a : Nat} (h : a < 100000) : (Int32.ofNat a).toInt = (a : Int) := toInt_of rfl (by omega)
theorem c_of {a : Nat} (h : a < 100000) : (Int32.ofNat a).toNatClampNeg = a := by rw [i_clamp, t_of h]; rfl
theorem n_of {a : Nat} (h : a < 100000) : ¬ Int32.ofNat a < 0 := fun q => by have := i_lt.mp q; rw [t_of h, Int32.toInt_zero] at this; omega
theorem o_inj {a b : Nat} (ha : a < 100000) (hb : b < 100000) (h : Int32.ofNat a = Int32.ofNat b) : a = b := by
  have := congrArg Int32.toInt h
  rw [t_of ha, t_of hb] at this
  omega
theorem o_add {a b : Nat} (h : a + b < 100000) : Int32.ofNat a + Int32.ofNat b = Int32.ofNat (a + b) := by
  rw [i_eq, i_add (by rw [t_of (by omega), t_of (by omega)]; omega) (by rw [t_of (by omega), t_of (by omega)]; omega), t_of (by omega), t_of (by omega), t_of h]
  omega
theorem o_sub {a b : Nat} (ha : a < 100000) (h : b ≤ a) : Int32.ofNat a - Int32.ofNat b = Int32.ofNat (a - b) := by
  rw [i_eq, i_sub (by rw [t_of (by omega), t_of (by omega)]; omega) (by rw [t_of (by omega), t_of (by omega)]; omega), t_of (by omega), t_of (by omega), t_of (by omega)]
  omega
theorem o_sub_le {a b : Nat} (ha : a < 100000) (hb : b < 100000) : (Int32.ofNat a - Int32.ofNat b ≤ 0) ↔ a ≤ b := by
  rw [i_le, i_sub (by rw [t_of (by omega), t_of (by omega)]; omega) (by rw [t_of (by omega), t_of (by omega)]; omega), t_of (by omega), t_of (by omega), Int32.toInt_zero]
  omega
theorem o_max {a b : Nat} (ha : a < 100000) (hb : b < 100000) : imax (Int32.ofNat a) (Int32.ofNat b) = Int32.ofNat (if a < b then b else a) := by
  unfold imax
  by_cases h : a < b
  · rw [if_pos h, if_pos (i_lt.mpr (by rw [t_of ha, t_of hb]; omega))]
  · rw [if_neg h, if_neg (fun q => h (by have := i_lt.mp q; rw [t_of ha, t_of hb] at this; omega))]
theorem o_min {a b : Nat} (ha : a < 100000) (hb : b < 100000) (h : a ≤ b) : imin (Int32.ofNat a) (Int32.ofNat b) = Int32.ofNat a := by
  unfold imin
  rw [if_neg (fun q => by have := i_lt.mp q; rw [t_of ha, t_of hb] at this; omega)]
theorem sh_l {x y : Int32} (h : y = 0) : x <<< (y &&& 31) = x := by
  subst h
  rw [← Int32.toBitVec_inj]
  show x.toBitVec <<< ((0 : Int32) &&& 31).toBitVec.smod 32 = _
  have e : ((0 : Int32) &&& 31).toBitVec.smod 32 = 0#32 := by decide
  rw [e]
  simp
theorem sh_r {x y : Int32} (h : y = 0) : x >>> (y &&& 31) = x := by
  subst h
  rw [← Int32.toBitVec_inj]
  show x.toBitVec.sshiftRight' (((0 : Int32) &&& 31).toBitVec.smod 32) = _
  have e : ((0 : Int32) &&& 31).toBitVec.smod 32 = 0#32 := by decide
  rw [e]
  simp
theorem cpok_o {M : Mem} {k1 n0 n1 a b c : Nat} (ha : a < 100000) (hb : b < 100000) (hc : c < 100000) (h1 : a + c ≤ n0) (h2 : b + c ≤ n1) (hf : fitB (M.1 k1) n0 = true) : cpok M k1 n0 n1 (Int32.ofNat a) (Int32.ofNat b) (Int32.ofNat c) = true := by
  unfold cpok
  rw [decide_eq_false (n_of ha), decide_eq_false (n_of hb), decide_eq_false (n_of hc), c_of ha, c_of hb, c_of hc, decide_eq_true h1, decide_eq_true h2, hf]
  rfl
/-- so large grows an array of m for q -/
def capN (q m : Nat) : Nat := if q ≤ 2 * m + 2 then 2 * m + 2 else q
theorem capN_b {q m : Nat} (hq : q ≤ 200) (h : m < q) : q ≤ capN q m ∧ m < capN q m ∧ capN q m ≤ 402 := by
  unfold capN; split <;> omega
/-- the bytes of a text; letters of seven bits -/
def Tb (M : Mem) (a : Nat) (t : List Nat) : Prop := ∀ j, j < t.length → M.1 a j = Int32.ofNat (t.getD j 0)
def As7 (t : List Nat) : Prop := ∀ c ∈ t, c < 128
def SBx (K : Nat → Nat × Nat) (M : Mem) (k a m : Nat) (t : List Nat) : Prop := kSb K k a m ∧ M.1 k 1 = 0 ∧ M.1 k 3 = Int32.ofNat t.length ∧ t.length ≤ m ∧ m ≤ 402 ∧ Tb M a t ∧ fitB (M.1 a) m = true ∧ As7 t
def STx (K : Nat → Nat × Nat) (M : Mem) (k a : Nat) (t : List Nat) : Prop := kDs K k a t.length ∧ M.1 k 1 = 0 ∧ Tb M a t ∧ As7 t ∧ t.length ≤ 200
theorem b_fit : ∀ c, c < 128 → fits .byte (.int (Int32.ofNat c)) = true := by decide +kernel
theorem As7.at {t : List Nat} (h : As7 t) {j : Nat} (hj : j < t.length) : t.getD j 0 < 128 := by
  rw [List.getD_eq_getElem?_getD, List.getElem?_eq_getElem hj]; exact h _ (List.getElem_mem hj)
theorem As7.app {t u : List Nat} (h : As7 t) (h' : As7 u) : As7 (t ++ u) := fun c hc => (List.mem_append.mp hc).elim (h c) (h' c)
theorem Tb.fit {M : Mem} {a : Nat} {t : List Nat} (h : Tb M a t) (h7 : As7 t) : fitB (M.1 a) t.length = true := fitB_o (fun i hi => by rw [h i hi]; exact b_fit _ (h7.at hi))
theorem getD_app {t u : List Nat} {j : Nat} : (t ++ u).getD j 0 = if j < t.length then t.getD j 0 else u.getD (j - t.length) 0 := by
  simp only [List.getD_eq_getElem?_getD]
  by_cases h : j < t.length
  · rw [if_pos h, List.getElem?_append_left h]
  · rw [if_neg h, List.getElem?_append_right (by omega)]
/-- the text of a literal -/
def stN (i : Nat) : List Nat := (stB i).map (fun x => x.toNatClampNeg)
theorem st_nat : ∀ i, i < 19 → (stN i).length = stLen i ∧ (∀ j, j < 10 → j < stLen i → (stB i).getD j 0 = Int32.ofNat ((stN i).getD j 0)) ∧ ∀ c ∈ stN i, c < 128 := by decide +kernel
theorem cpy_s1 {M : Mem} {a b sp dp n j : Nat} (h : j ≠ b) : Sm M (cpy M a b sp dp n) j := cpy_o j h
theorem wr_s1 {M : Mem} {k i j : Nat} {v : Int32} (h : j ≠ k) : Sm M (wr M k i v) j := wr_o j h
theorem zr_s1 {M : Mem} {k j : Nat} (h : j ≠ k) : Sm M (zr M k) j := zr_o j h
theorem cpS_s1 {M : Mem} {i b dp j : Nat} (h : j ≠ b) : Sm M (cpS M i b dp) j := cpS_o j h
theorem wr_at {M : Mem} {k j i : Nat} {v : Int32} : (wr M k j v).1 k i = if i = j then v else M.1 k i := by
  show (if k = k then upd (M.1 k) j v else M.1 k) i = _
  rw [if_pos rfl]; rfl
set_option maxHeartbeats 4000000 in
theorem tJ7_copyOf_9075b (l : Launch) {G : GT} {kd : Nat → Nat × Nat} {ad : Nat → Nat} {M : Mem} {k n0 N : Nat} (hinj : ∀ i j, ad i = ad j → i = j) (hk : kd k = (11, n0)) (hN : n0 < N ∧ N ≤ 1000) (hft : fitB (M.1 k) n0 = true) (n : Nat) (hsu : Su ad n) :
    Met l yJ7_copyOf_9075b (Cond.code yJ7_copyOf_9075b cJ7_copyOf_9075b 3 (some (.array .byte)) :: WA) (rmO 2 1 N) (Pg G kd ad n [.ref (ad k), .int (Int32.ofNat N)] M) (Qs G kd ad n (fun K' M' r => ∃ id, (kd id).1 = 0 ∧ K' = setk kd id (11, N) ∧ M' = cpy (zr M id) k id 0 0 n0 ∧ r = some (.ref (ad id)))) 1 N (AS kd ad n) := by
  refine d_body (own := RJ7) (by decide) rfl ?_ (Nat.le_of_ble_eq_true rfl)
  intro p e s m args below meth c C _ hsz H locs ls hI hl
  subst hsz
  obtain ⟨hx, hb, hml, hr, hown, hts, hlk, hK, hap, hsx⟩ := C
  have hl : lv_has ls 3 [(0, .ref (ad k)), (1, .int (Int32.ofNat N))] := hl
  refine lv_iload_n hx hb (dc tbJ7_copyOf_9075b_k 0 rfl) rfl (lv_at hl 1 rfl) ?_
  refine lv_aload_n hx hb (dc tbJ7_copyOf_9075b_k 1 rfl) rfl (lv_at hl 0 rfl) ?_
  refine g_alenB hx hb hK hI hk (v := Int32.ofNat n0) rfl (dc tbJ7_copyOf_9075b_k 2 rfl) ?_
  refine lv_icmp_ne (tgt := 14) hx hb (dc tbJ7_copyOf_9075b_k 3 rfl) rfl (fun c4 => ?_) (fun c4 => ?_)
  · refine lv_iload_n hx hb (dc tbJ7_copyOf_9075b_k 8 rfl) rfl (lv_at hl 1 rfl) ?_
    obtain ⟨id, hid, -⟩ := hsu H.size hI.2.1
    have h0 := hI.1.fresh hid
    have hki : k ≠ id := fun e => by rw [← e, hk] at h0; exact absurd h0 (by simp)
    have hge : s.heap.size ≤ ad id := by rw [hid]; exact hI.2.1
    refine d_newb hx hb q_t1_69 hts hK hI hid ⟨c_of (by omega), n_of (by omega)⟩ (by omega) ⟨Nat.le_of_ble_eq_true rfl, Nat.le_of_eq (Nat.zero_add N)⟩ dJ7_copyOf_9075b_15 (fun H1 hI => ?_)
    have hX : Kx kd (setk kd id (11, N)) ad s.heap.size := Kx.set (by simp) (fun _ => hge)
    have hap : Apt (setk kd id (11, N)) ad := fun _ _ _ _ h => hinj _ _ h
    have hk' : setk kd id (11, N) k = (11, n0) := (setk_o hki).trans hk
    refine lv_astore_n (lv' := [(2, .ref (ad id)), (0, .ref (ad k)), (1, .int (Int32.ofNat N))]) hx hb (dc tbJ7_copyOf_9075b_k 9 rfl) rfl hl (by decide) rfl (fun ls hl => ?_)
    refine lv_aload_n hx hb (dc tbJ7_copyOf_9075b_k 10 rfl) rfl (lv_at hl 1 rfl) ?_
    refine lv_iconst (v := 0) hx hb (dc tbJ7_copyOf_9075b_k 11 rfl) ic_0 ?_
    refine lv_aload_n hx hb (dc tbJ7_copyOf_9075b_k 12 rfl) rfl (lv_at hl 0 rfl) ?_
    refine lv_iconst (v := 0) hx hb (dc tbJ7_copyOf_9075b_k 13 rfl) ic_0 ?_
    refine lv_aload_n hx hb (dc tbJ7_copyOf_9075b_k 14 rfl) rfl (lv_at hl 1 rfl) ?_
    refine g_alenB hx hb hK hI hk' (v := Int32.ofNat n0) rfl (dc tbJ7_copyOf_9075b_k 15 rfl) ?_
    refine lv_iload_n hx hb (dc tbJ7_copyOf_9075b_k 16 rfl) rfl (lv_at hl 2 rfl) ?_
    refine va_mmin hx hb (hml.trans hl.1.symm) hown (hts _ q_t4_7) (hts _ q_t4_8) (hts _ q_t1_12) (hts _ q_t4_9) (Nat.le_of_ble_eq_true rfl) (Nat.le_of_ble_eq_true rfl) (Nat.le_of_ble_eq_true rfl) (Nat.le_of_eq (Nat.zero_add N)) (dc tbJ7_copyOf_9075b_k 17 rfl) ?_
    refine lv_et (show (if _ then _ else _) = Int32.ofNat n0 from o_min (by omega) (by omega) (by omega)) ?_
    refine g_copyD hx hb (hml.trans hl.1.symm) hown (hts _ q_t4_10) (hts _ q_t3_186) (hts _ q_t3_185) (hts _ q_t1_14) hK hap hI hk' setk_s (cpok_o (a := 0) (b := 0) (c := n0) (by omega) (by omega) (by omega) (by omega) (by omega) (by rw [(zr_o (M := M) k hki).1]; exact hft)) ⟨Nat.le_of_ble_eq_true rfl, Nat.le_of_ble_eq_true rfl⟩ (dc tbJ7_copyOf_9075b_k 18 rfl) rfl (fun H locs hI => ?_)
    refine lv_aload_n hx hb (dc tbJ7_copyOf_9075b_k 19 rfl) rfl (lv_at hl 0 rfl) ?_
    refine W.widen (k := 1) (n := N) (Nat.le_of_ble_eq_true rfl) (Nat.le_of_eq (Nat.zero_add N)) ?_
    exact d_aret hx hb hr (Or.inr ⟨_, rfl⟩) hlk hX hI ⟨id, h0, rfl, by rw [c_of (by omega)]; rfl, rfl⟩ (dc tbJ7_copyOf_9075b_k 20 rfl)
  · exact absurd (o_inj (by omega) (by omega) c4) (by omega)
theorem e_ncap {k a m q : Nat} {M : Mem} (hc : M.1 k 1 = 0) (hm : m ≤ 402) (hq : q ≤ 200) (h : m < q) : mJ5_newCapacity_0f7a4 k a m (Int32.ofNat q) M = some (Int32.ofNat (capN q m)) := by
  have hc' : rd M k 1 = 0 := hc
  obtain ⟨b1, b2, b3⟩ := capN_b hq h
  unfold mJ5_newCapacity_0f7a4
  show cap (mJ8_newLength_cabcc (Int32.ofNat m) ((Int32.ofNat q <<< ((rd M k 1) &&& 31)) - Int32.ofNat m) (Int32.ofNat m + ((2 : Int32) <<< ((rd M k 1) &&& 31))) M) _ = _
  rw [sh_l hc', sh_l hc', o_sub (by omega) (by omega), show (2 : Int32) = Int32.ofNat 2 from rfl, o_add (by omega)]
  have e : mJ8_newLength_cabcc (Int32.ofNat m) (Int32.ofNat (q - m)) (Int32.ofNat (m + 2)) M = some (Int32.ofNat (capN q m)) := by
    unfold mJ8_newLength_cabcc
    show ite2 _ _ _ = _
    rw [o_max (by omega) (by omega), o_add (by split <;> omega)]
    have e2 : m + (if q - m < m + 2 then m + 2 else q - m) = capN q m := by unfold capN; split <;> split <;> omega
    rw [e2]
    unfold ite2
    rw [if_neg (fun z => by have := i_le.mp z; rw [t_of (by omega), Int32.toInt_zero] at this; omega), if_neg (fun z => by have := i_lt.mp z; rw [t_of (by omega)] at this; exact absurd this (by have e9 : ((2147483639 : Int32)).toInt = 2147483639 := rfl; rw [e9]; omega))]
  rw [e]
  show ite2 _ _ _ = _
  unfold ite2
  rw [if_neg (fun z => by have := i_eq.mp z; rw [t_of (by omega)] at this; exact absurd this (by have e9 : ((2147483647 : Int32)).toInt = 2147483647 := rfl; rw [e9]; omega)), sh_r hc']
abbrev PE (kd : Nat → Nat × Nat) (M : Mem) (k a m q : Nat) : PS := fun K' M' r => r = none ∧ ((q ≤ m ∧ K' = kd ∧ M' = M) ∨ (m < q ∧ ∃ id, (kd id).1 = 0 ∧ K' = setk (setk kd id (11, capN q m)) k (9, id) ∧ M' = cpy (zr M id) a id 0 0 m))
set_option maxHeartbeats 4000000 in
theorem tJ5_ensureCapacityInternal_d00df (l : Launch) {G : GT} {kd : Nat → Nat × Nat} {ad : Nat → Nat} {M : Mem} {k a m q : Nat} (hinj : ∀ i j, ad i = ad j → i = j) (hk : kSb kd k a m) (hc : M.1 k 1 = 0) (hm : m ≤ 402) (hq : q ≤ 200) (hft : fitB (M.1 a) m = true) (n : Nat) (hsu : Su ad n) :
    Met l yJ5_ensureCapacityInternal_d00df (Cond.code yJ5_ensureCapacityInternal_d00df cJ5_ensureCapacityInternal_d00df 3 none :: WA) (rmO 3 1 1000) (Pg G kd ad n [.ref (ad k), .int (Int32.ofNat q)] M) (Qs G kd ad n (PE kd M k a m q)) 1 1000 (AS kd ad n) := by
  refine d_body (own := RJ5) (by decide) rfl ?_ (Nat.le_of_ble_eq_true rfl)
  intro p e s m' args below meth c C _ hsz H locs ls hI hl
  subst hsz
  obtain ⟨hx, hb, hml, hr, hown, hts, hlk, hK, hap, hsx⟩ := C
  have hl : lv_has ls 3 [(0, .ref (ad k)), (1, .int (Int32.ofNat q))] := hl
  have hc' : rd M k 1 = 0 := hc
  refine lv_aload_n hx hb (dc tbJ5_ensureCapacityInternal_d00df_k 0 rfl) rfl (lv_at hl 0 rfl) ?_
  refine ggSB_0 hx hb hts hown hK hI hk.1 q_t2_49 (dc tbJ5_ensureCapacityInternal_d00df_k 1 rfl) ?_
  refine g_alenB hx hb hK hI hk.2 (v := Int32.ofNat m) rfl (dc tbJ5_ensureCapacityInternal_d00df_k 2 rfl) ?_
  refine lv_aload_n hx hb (dc tbJ5_ensureCapacityInternal_d00df_k 3 rfl) rfl (lv_at hl 0 rfl) ?_
  refine ggSB_1 hx hb hts hown hK hI hk.1 q_t2_50 (dc tbJ5_ensureCapacityInternal_d00df_k 4 rfl) ?_
  refine lv_ishr hx hb (dc tbJ5_ensureCapacityInternal_d00df_k 5 rfl) ?_
  refine lv_et (sh_r hc') ?_
  refine lv_istore_n (lv' := [(2, .int (Int32.ofNat m)), (0, .ref (ad k)), (1, .int (Int32.ofNat q))]) hx hb (dc tbJ5_ensureCapacityInternal_d00df_k 6 rfl) rfl hl (by decide) rfl (fun ls hl => ?_)
  refine lv_iload_n hx hb (dc tbJ5_ensureCapacityInternal_d00df_k 7 rfl) rfl (lv_at hl 2 rfl) ?_
  refine lv_iload_n hx hb (dc tbJ5_ensureCapacityInternal_d00df_k 8 rfl) rfl (lv_at hl 0 rfl) ?_
  refine lv_isub hx hb (dc tbJ5_ensureCapacityInternal_d00df_k 9 rfl) ?_
  refine lv_if_le (tgt := 38) hx hb (dc tbJ5_ensureCapacityInternal_d00df_k 10 rfl) rfl (fun c9 => ?_) (fun c9 => ?_)
  · refine W.widen (k := 1) (n := 1000) (Nat.zero_le _) (Nat.zero_le _) ?_
    exact d_vret hx hb hr hlk Kx.rf hI ⟨rfl, Or.inl ⟨(o_sub_le (by omega) (by omega)).mp c9, rfl, rfl⟩⟩ (dc tbJ5_ensureCapacityInternal_d00df_k 22 rfl)
  · have hlt : m < q := Nat.lt_of_not_le (fun z => c9 ((o_sub_le (by omega) (by omega)).mpr z))
    obtain ⟨b1, b2, b3⟩ := capN_b hq hlt
    refine lv_aload_n hx hb (dc tbJ5_ensureCapacityInternal_d00df_k 11 rfl) rfl (lv_at hl 1 rfl) ?_
    refine lv_aload_n hx hb (dc tbJ5_ensureCapacityInternal_d00df_k 12 rfl) rfl (lv_at hl 1 rfl) ?_
    refine ggSB_0 hx hb hts hown hK hI hk.1 q_t2_49 (dc tbJ5_ensureCapacityInternal_d00df_k 13 rfl) ?_
    refine lv_aload_n hx hb (dc tbJ5_ensureCapacityInternal_d00df_k 14 rfl) rfl (lv_at hl 1 rfl) ?_
    refine lv_iload_n hx hb (dc tbJ5_ensureCapacityInternal_d00df_k 15 rfl) rfl (lv_at hl 2 rfl) ?_
    refine g_callUi (n := 1) hx hb hml hown hts hK hap hsx hI (tJ5_newCapacity_0f7a4 l hk (e_ncap hc hm hq hlt) H.size) q_t3_222 q_t5_116 q_t3_224 q_t1_7 q_t3_225 q_wk_1 (by decide +kernel) rfl rfl ⟨Nat.le_of_ble_eq_true rfl, Nat.le_of_ble_eq_true rfl⟩ hk.1 (by simp) rfl rfl rfl hl.1 rfl (Nat.le_of_ble_eq_true rfl) (dc tbJ5_ensureCapacityInternal_d00df_k 16 rfl) ⟨Nat.le_of_ble_eq_true rfl, Nat.le_of_ble_eq_true rfl⟩ (fun H locs hI => ?_)
    refine lv_aload_n hx hb (dc tbJ5_ensureCapacityInternal_d00df_k 17 rfl) rfl (lv_at hl 1 rfl) ?_
    refine ggSB_1 hx hb hts hown hK hI hk.1 q_t2_50 (dc tbJ5_ensureCapacityInternal_d00df_k 18 rfl) ?_
    refine lv_ishl hx hb (dc tbJ5_ensureCapacityInternal_d00df_k 19 rfl) ?_
    refine lv_et (sh_l hc') ?_
    refine d_callS (n := 2) hx hb hml hown hts hK hap hsx hI (tJ7_copyOf_9075b l hinj hk.2 ⟨b2, by omega⟩ hft H.size (hsu.le hI.2.1)) ⟨q_t3_238, q_t1_13, q_t3_239, (by decide +kernel)⟩ q_t3_237 rfl rfl ⟨Nat.le_of_ble_eq_true rfl, Nat.le_of_ble_eq_true rfl⟩ rfl hl.1 rfl (Nat.le_of_ble_eq_true rfl) (dc tbJ5_ensureCapacityInternal_d00df_k 20 rfl) ⟨Nat.le_of_ble_eq_true rfl, by show 0 + 0 + capN q m ≤ 1000; omega⟩ (fun K1 M1 v H locs hP hX hI => ?_)
    obtain ⟨id, h0, rfl, rfl, rfl⟩ := hP
    have hki : k ≠ id := fun e => by rw [← e, hk.1] at h0; exact absurd h0 (by simp)
    have hk1 : setk kd id (11, capN q m) k = (9, a) := (setk_o hki).trans hk.1
    refine d_put false hx hb hts inWJ4 tyJ4 tyJ4_ok nmJ4 hown hK hI hinj (fun h => by cases h) (q' := (9, id)) hk1 (by simp) (by simp) rfl rfl 0 (by decide) ⟨rfl, rfl, rfl⟩ q_t2_49 rfl (fun h => by cases h) (ty := .array .byte) (by decide +kernel) rfl rfl (Nat.le_of_ble_eq_true rfl) (M' := cpy (zr M id) a id 0 0 m) rfl (fun _ _ => ⟨rfl, rfl, rfl⟩) (dc tbJ5_ensureCapacityInternal_d00df_k 21 rfl) (fun H locs hI => ?_)
    refine W.widen (k := 1) (n := 1000) (Nat.le_of_ble_eq_true rfl) (by show 0 + 0 + capN q m ≤ 1000; omega) ?_
    exact d_vret hx hb hr hlk (hX.trans (Kx.set (by simp) (fun h => absurd h (by rw [hk1]; simp)))) hI ⟨rfl, Or.inr ⟨hlt, id, h0, rfl, rfl⟩⟩ (dc tbJ5_ensureCapacityInternal_d00df_k 22 rfl)
theorem SBx.ens {kd K1 : Nat → Nat × Nat} {M M1 : Mem} {k a m q : Nat} {t : List Nat} {r : Option Value} (h : SBx kd M k a m t) (hq : q ≤ 200) (hak : a ≠ k) (hP : PE kd M k a m q K1 M1 r) :
    ∃ a' m', SBx K1 M1 k a' m' t ∧ a' ≠ k ∧ q ≤ m' ∧ ((q ≤ m ∧ m' = m) ∨ (m < q ∧ m' = capN q m)) ∧ (∀ j, (kd j).1 ≠ 0 → j ≠ k → K1 j = kd j) ∧ (∀ j, (kd j).1 ≠ 0 → Sm M M1 j) ∧ (a' = a ∨ (kd a').1 = 0) := by
  obtain ⟨-, hP⟩ := hP
  rcases hP with ⟨h1, rfl, rfl⟩ | ⟨h1, id, h0, rfl, rfl⟩
  · exact ⟨a, m, h, hak, h1, Or.inl ⟨h1, rfl⟩, fun _ _ _ => rfl, fun _ _ => Sm.rf, Or.inl rfl⟩
  · obtain ⟨hk, hc, hn, hl, hm, hT, hf, h7⟩ := h
    obtain ⟨b1, b2, b3⟩ := capN_b hq h1
    have hki : k ≠ id := fun e => by rw [← e, hk.1] at h0; exact absurd h0 (by simp)
    have hai : a ≠ id := fun e => by rw [← e, hk.2] at h0; exact absurd h0 (by simp)
    have hS : ∀ j, (kd j).1 ≠ 0 → Sm M (cpy (zr M id) a id 0 0 m) j := fun j hj => by
      have e : j ≠ id := fun e => hj (by rw [e]; exact h0)
      exact (zr_s1 e).trans (cpy_s1 e)
    have hv : ∀ j, (cpy (zr M id) a id 0 0 m).1 id j = if j < m then M.1 a j else 0 := fun j => by
      rw [cpy_s, zr_s.1, (zr_o (M := M) a hai).1]
      unfold va_cpy
      by_cases e : j < m
      · rw [if_pos e, if_pos (by omega), Nat.zero_add, Nat.sub_zero]
      · rw [if_neg e, if_neg (by omega)]
    refine ⟨id, capN q m, ⟨⟨setk_s, (setk_o (Ne.symm hki)).trans setk_s⟩, ?_, ?_, by omega, b3, fun j hj => ?_, fitB_o (fun i hi => ?_), h7⟩, Ne.symm hki, b1, Or.inr ⟨h1, rfl⟩, fun j hj hjk => ?_, hS, Or.inr h0⟩
    · rw [(hS k (by rw [hk.1]; simp)).1]; exact hc
    · rw [(hS k (by rw [hk.1]; simp)).1]; exact hn
    · rw [hv, if_pos (by omega)]; exact hT j hj
    · rw [hv]
      by_cases e : i < m
      · rw [if_pos e]; exact fitB_s hf i e
      · rw [if_neg e]; rfl
    · rw [setk_o hjk, setk_o (fun e => hj (by rw [e]; exact h0))]
/-- a text is put behind -/
theorem SBx.put {K : Nat → Nat × Nat} {M M2 : Mem} {k a m : Nat} {t u : List Nat} (h : SBx K M k a m t) (hak : a ≠ k) (h7 : As7 u) (hq : t.length + u.length ≤ m) (hv : ∀ j, M2.1 a j = if t.length ≤ j ∧ j < t.length + u.length then Int32.ofNat (u.getD (j - t.length) 0) else M.1 a j) (hk : Sm M M2 k) : SBx K (wr M2 k 3 (Int32.ofNat (t.length + u.length))) k a m (t ++ u) := by
  obtain ⟨hK, hc, hn, hl, hm, hT, hf, h7'⟩ := h
  have ea : (wr M2 k 3 (Int32.ofNat (t.length + u.length))).1 a = M2.1 a := (wr_o a hak).1
  refine ⟨hK, ?_, ?_, by rw [List.length_append]; exact hq, hm, fun j hj => ?_, fitB_o (fun i hi => ?_), h7'.app h7⟩
  · rw [wr_at, if_neg (by decide), hk.1]; exact hc
  · rw [wr_at, if_pos rfl, List.length_append]
  · rw [List.length_append] at hj
    rw [ea, hv, getD_app]
    by_cases e : j < t.length
    · rw [if_neg (by omega), if_pos e]; exact hT j e
    · rw [if_pos (by omega), if_neg e]
  · rw [ea, hv]
    by_cases e : t.length ≤ i ∧ i < t.length + u.length
    · rw [if_pos e]; exact b_fit _ (h7.at (by omega))
    · rw [if_neg e]; exact fitB_s hf i hi
/-- what an append gives -/
abbrev PA (kd : Nat → Nat × Nat) (ad : Nat → Nat) (M : Mem) (k a m : Nat) (t u : List Nat) : PS := fun K' M' r => r = some (.ref (ad k)) ∧ ∃ a' m', SBx K' M' k a' m' (t ++ u) ∧ a' ≠ k ∧ ((t.length + u.length ≤ m ∧ m' = m) ∨ (m < t.length + u.length ∧ m' = capN (t.length + u.length) m)) ∧ (∀ j, (kd j).1 ≠ 0 → j ≠ k → K' j = kd j) ∧ (∀ j, (kd j).1 ≠ 0 → j ≠ k → j ≠ a → Sm M M' j) ∧ (a' = a ∨ (kd a').1 = 0)
theorem e_len_s {i : Nat} (hi : i < 19) {M : Mem} : mJ0_length_8abf5 i M = some (Int32.ofNat (stN i).length) := by
  have h : ∀ i, i < 19 → mJ0_length_8abf5 i (fun _ _ => 0, fun _ _ => 0, fun _ _ => 0) = some (Int32.ofNat (stN i).length) := by decide +kernel
  exact h i hi
theorem e_cod {k a n : Nat} {M : Mem} (hc : M.1 k 1 = 0) : mJ0_coder_7d493_ds k a n M = some 0 := by
  have hc' : rd M k 1 = 0 := hc
  unfold mJ0_coder_7d493_ds
  rw [hc']
  rfl
theorem e_len_d {k a n : Nat} {M : Mem} (hc : M.1 k 1 = 0) : mJ0_length_8abf5_ds k a n M = some (Int32.ofNat n) := by
  unfold mJ0_length_8abf5_ds
  rw [e_cod hc]
  show some _ = _
  rw [sh_r rfl]
theorem e_put_s {k a m i n : Nat} {M : Mem} (hi : i < 19) (hc : M.1 k 1 = 0) (hn : n + stLen i ≤ m) (hm : m ≤ 402) : mJ5_putStringAt_47b60 k a m i (Int32.ofNat n) M = some (cpS M i a n, ()) := by
  have hc' : rd M k 1 = 0 := hc
  have e1 : mJ0_coder_7d493 i M = some 0 := rfl
  have e2 : mJ5_inflateIfNeededFor_a7421 k a m i M = some () := by
    unfold mJ5_inflateIfNeededFor_a7421
    rw [e1, hc']; rfl
  unfold mJ5_putStringAt_47b60
  rw [e2]
  have hc9 : ∀ k9 : Unit → Option (Mem × Unit), cap (some ()) k9 = k9 () := fun _ => rfl
  rw [hc9]
  have e3 : mJ0_getBytes_840e7 i a m (Int32.ofNat n) (rd M k 1) M = some (cpS M i a n, ()) := by
    unfold mJ0_getBytes_840e7
    rw [e1, hc']
    show ite2 _ _ _ = _
    unfold ite2
    rw [if_pos rfl, sh_l rfl, decide_eq_false (n_of (by omega)), c_of (by omega), decide_eq_true hn]
    rfl
  rw [e3]; rfl
theorem e_put_d {k a m k1 a1 n w : Nat} {M : Mem} (hc : M.1 k 1 = 0) (hc1 : M.1 k1 1 = 0) (hn : n + w ≤ m) (hm : m ≤ 402) (hf : fitB (M.1 a1) w = true) : mJ5_putStringAt_47b60_ds k a m k1 a1 w (Int32.ofNat n) M = some (cpy M a1 a 0 n w, ()) := by
  have hc' : rd M k 1 = 0 := hc
  have e1 : mJ0_coder_7d493_ds k1 a1 w M = some 0 := e_cod hc1
  have e2 : mJ5_inflateIfNeededFor_a7421_ds k a m k1 a1 w M = some () := by
    unfold mJ5_inflateIfNeededFor_a7421_ds
    rw [e1, hc']; rfl
  unfold mJ5_putStringAt_47b60_ds
  rw [e2]
  have hc9 : ∀ k9 : Unit → Option (Mem × Unit), cap (some ()) k9 = k9 () := fun _ => rfl
  rw [hc9]
  have e3 : mJ0_getBytes_840e7_ds k1 a1 w a m (Int32.ofNat n) (rd M k 1) M = some (cpy M a1 a 0 n w, ()) := by
    unfold mJ0_getBytes_840e7_ds
    rw [e1, hc']
    show ite2 _ _ _ = _
    unfold ite2
    rw [if_pos rfl, sh_l rfl, (show cpok M a1 w m 0 (Int32.ofNat n) (Int32.ofNat w) = true from cpok_o (a := 0) (by omega) (by omega) (by omega) (by omega) hn hf), c_of (a := n) (by omega), c_of (a := w) (by omega)]
    rfl
  rw [e3]; rfl
theorem e_lat {k a n : Nat} {M : Mem} (hc : M.1 k 1 = 0) : mJ5_isLatin1_aae02 k a n M = some 1 := by
  have hc' : rd M k 1 = 0 := hc
  unfold mJ5_isLatin1_aae02
  rw [hc']
  rfl
set_option maxHeartbeats 4000000 in
theorem tJ5_append_s (l : Launch) {G : GT} {kd : Nat → Nat × Nat} {ad : Nat → Nat} {M : Mem} {k a m : Nat} {t : List Nat} (hinj : ∀ i j, ad i = ad j → i = j) (hS : SBx kd M k a m t) (hak : a ≠ k) {i0 : Nat} (hi : i0 < 19) (hq : t.length + (stN i0).length ≤ 200) (n : Nat) (hsu : Su ad n) :
    Met l yJ5_append_cf1ce (Cond.code yJ5_append_cf1ce cJ5_append_cf1ce 3 (some (.object "java/lang/AbstractStringBuilder")) :: WA) (rmO 5 1 1000) (Pg G kd ad n [.ref (ad k), .ref (G.2.2 (100 + i0))] M) (Qs G kd ad n (PA kd ad M k a m t (stN i0))) 1 1000 (AS kd ad n) := by
  refine d_body (own := RJ5) (by decide) rfl ?_ (Nat.le_of_ble_eq_true rfl)
  intro p e s m' args below meth c C _ hsz H locs ls hI hl
  subst hsz
  have C0 := C
  obtain ⟨hx, hb, hml, hr, hown, hts, hlk, hK, hap, hsx⟩ := C
  have hl : lv_has ls 3 [(0, .ref (ad k)), (1, .ref (G.2.2 (100 + i0)))] := hl
  obtain ⟨u1, u2, u3⟩ := st_nat i0 hi
  obtain ⟨u4, u5, u6⟩ := st_len i0 hi
  refine lv_aload_n hx hb (dc tbJ5_append_cf1ce_k 0 rfl) rfl (lv_at hl 1 rfl) ?_
  refine lv_ifnonnull (tgt := 9) hx hb (dc tbJ5_append_cf1ce_k 1 rfl) rfl ?_
  refine lv_aload_n hx hb (dc tbJ5_append_cf1ce_k 5 rfl) rfl (lv_at hl 1 rfl) ?_
  refine g_callTi hx hb hml hown hts hK hap hsx hI (tJ0_length_8abf5 l hi (e_len_s hi) H.size) cv_J0_length_8abf5 q_t4_31 rfl rfl ⟨Nat.le_of_ble_eq_true rfl, Nat.le_of_ble_eq_true rfl⟩ hi rfl hl.1 rfl (Nat.le_of_ble_eq_true rfl) (dc tbJ5_append_cf1ce_k 6 rfl) ⟨Nat.le_of_ble_eq_true rfl, Nat.le_of_ble_eq_true rfl⟩ (fun H locs hI => ?_)
  refine lv_istore_n (lv' := [(2, .int (Int32.ofNat (stN i0).length)), (0, .ref (ad k)), (1, .ref (G.2.2 (100 + i0)))]) hx hb (dc tbJ5_append_cf1ce_k 7 rfl) rfl hl (by decide) rfl (fun ls hl => ?_)
  refine lv_aload_n hx hb (dc tbJ5_append_cf1ce_k 8 rfl) rfl (lv_at hl 1 rfl) ?_
  refine lv_aload_n hx hb (dc tbJ5_append_cf1ce_k 9 rfl) rfl (lv_at hl 1 rfl) ?_
  refine ggSB_3 hx hb hts hown hK hI hS.1.1 q_t2_52 (dc tbJ5_append_cf1ce_k 10 rfl) ?_
  refine lv_iload_n hx hb (dc tbJ5_append_cf1ce_k 11 rfl) rfl (lv_at hl 0 rfl) ?_
  refine lv_iadd hx hb (dc tbJ5_append_cf1ce_k 12 rfl) ?_
  refine lv_et (b := Int32.ofNat (t.length + (stN i0).length)) (by rw [show rd M k 3 = Int32.ofNat t.length from hS.2.2.1]; exact o_add (by omega)) ?_
  refine d_callU (n := 1) hx hb hml hown hts hK hap hsx hI (tJ5_ensureCapacityInternal_d00df l hinj hS.1 hS.2.1 hS.2.2.2.2.1 hq hS.2.2.2.2.2.2.1 H.size (hsu.le hI.2.1)) q_t3_218 q_t5_115 q_t3_220 q_t1_7 q_t3_221 q_wk_0 (by decide +kernel) rfl rfl ⟨Nat.le_of_ble_eq_true rfl, Nat.le_of_ble_eq_true rfl⟩ hS.1.1 (by simp) rfl rfl rfl hl.1 rfl (Nat.le_of_ble_eq_true rfl) (dc tbJ5_append_cf1ce_k 13 rfl) ⟨Nat.le_of_ble_eq_true rfl, Nat.le_of_ble_eq_true rfl⟩ (fun K1 M1 v H locs hP hX hI => ?_)
  have hv0 : v = none := hP.1
  subst hv0
  obtain ⟨a1, m1, hkS, hak1, hqm, hmm, hKe, hMe, haa⟩ := hS.ens hq hak hP
  have hC := C0.kx hX hinj
  obtain ⟨-, -, -, -, -, -, -, -, hap, hsx⟩ := hC
  refine lv_aload_n hx hb (dc tbJ5_append_cf1ce_k 14 rfl) rfl (lv_at hl 1 rfl) ?_
  refine lv_aload_n hx hb (dc tbJ5_append_cf1ce_k 15 rfl) rfl (lv_at hl 1 rfl) ?_
  refine ggSB_3 hx hb hts hown hK hI hkS.1.1 q_t2_52 (dc tbJ5_append_cf1ce_k 16 rfl) ?_
  refine lv_et (b := Int32.ofNat t.length) hkS.2.2.1 ?_
  refine lv_aload_n hx hb (dc tbJ5_append_cf1ce_k 17 rfl) rfl (lv_at hl 2 rfl) ?_
  refine g_callUv (n := 2) hx hb hml hown hts hK hap hsx hI (tJ5_putStringAt_47b60 l hkS.1 hi (e_put_s (n := t.length) hi hkS.2.1 (by rw [← u1]; omega) hkS.2.2.2.2.1) H.size) q_t4_32 q_t5_117 q_t4_34 q_t1_7 q_t4_35 q_wk_3 (by decide +kernel) rfl rfl ⟨Nat.le_of_ble_eq_true rfl, Nat.le_of_ble_eq_true rfl⟩ hkS.1.1 (by simp) rfl rfl rfl hl.1 rfl (Nat.le_of_ble_eq_true rfl) (dc tbJ5_append_cf1ce_k 18 rfl) ⟨Nat.le_of_ble_eq_true rfl, Nat.le_of_ble_eq_true rfl⟩ (fun H locs hI => ?_)
  refine lv_aload_n hx hb (dc tbJ5_append_cf1ce_k 19 rfl) rfl (lv_at hl 1 rfl) ?_
  refine lv_dup hx hb (dc tbJ5_append_cf1ce_k 20 rfl) rfl ?_
  refine ggSB_3 hx hb hts hown hK hI hkS.1.1 q_t2_52 (dc tbJ5_append_cf1ce_k 21 rfl) ?_
  have hsk : Sm M1 (cpS M1 i0 a1 t.length) k := cpS_s1 (Ne.symm hak1)
  refine lv_et (b := Int32.ofNat t.length) (by show (cpS M1 i0 a1 t.length).1 k 3 = _; rw [hsk.1]; exact hkS.2.2.1) ?_
  refine lv_iload_n hx hb (dc tbJ5_append_cf1ce_k 22 rfl) rfl (lv_at hl 0 rfl) ?_
  refine lv_iadd hx hb (dc tbJ5_append_cf1ce_k 23 rfl) ?_
  refine lv_et (o_add (by omega)) ?_
  refine gpSB_3 hx hb hts hown hK hap hI hkS.1.1 q_t2_52 (dc tbJ5_append_cf1ce_k 24 rfl) rfl (fun H locs hI => ?_)
  refine lv_aload_n hx hb (dc tbJ5_append_cf1ce_k 25 rfl) rfl (lv_at hl 1 rfl) ?_
  refine W.widen (k := 1) (n := 1000) (Nat.le_of_ble_eq_true rfl) (Nat.le_of_ble_eq_true rfl) ?_
  refine d_aret hx hb hr (Or.inl ⟨_, rfl⟩) hlk hX hI ⟨rfl, a1, m1, hkS.put hak1 u3 hqm (fun j => ?_) hsk, hak1, hmm, hKe, fun j hj hjk hja => ?_, haa⟩ (dc tbJ5_append_cf1ce_k 26 rfl)
  · rw [cpS_s]
    unfold va_cpy
    rw [← u1]
    by_cases e : t.length ≤ j ∧ j < t.length + (stN i0).length
    · rw [if_pos e, if_pos (by omega)]
      have := u2 (0 + (j - t.length)) (by omega) (by omega)
      rw [Nat.zero_add] at this ⊢
      exact this
    · rw [if_neg e, if_neg (by omega)]
  · have hja : j ≠ a1 := by
      rcases haa with e | e
      · rw [e]; exact hja
      · exact fun e2 => hj (by rw [e2]; exact e)
    exact ((hMe j hj).trans (cpS_s1 hja)).trans (wr_s1 hjk)
set_option maxHeartbeats 4000000 in
theorem tJ5_append_d (l : Launch) {G : GT} {kd : Nat → Nat × Nat} {ad : Nat → Nat} {M : Mem} {k a m : Nat} {t : List Nat} (hinj : ∀ i j, ad i = ad j → i = j) (hS : SBx kd M k a m t) (hak : a ≠ k) {k2 a2 : Nat} {u : List Nat} (hu : STx kd M k2 a2 u) (ha2 : a2 ≠ a) (ha2k : a2 ≠ k) (hk2k : k2 ≠ k) (hq : t.length + u.length ≤ 200) (n : Nat) (hsu : Su ad n) :
    Met l yJ5_append_cf1ce (Cond.code yJ5_append_cf1ce cJ5_append_cf1ce 3 (some (.object "java/lang/AbstractStringBuilder")) :: WA) (rmO 5 1 1000) (Pg G kd ad n [.ref (ad k), .ref (ad k2)] M) (Qs G kd ad n (PA kd ad M k a m t u)) 1 1000 (AS kd ad n) := by
  refine d_body (own := RJ5) (by decide) rfl ?_ (Nat.le_of_ble_eq_true rfl)
  intro p e s m' args below meth c C _ hsz H locs ls hI hl
  subst hsz
  have C0 := C
  obtain ⟨hx, hb, hml, hr, hown, hts, hlk, hK, hap, hsx⟩ := C
  have hl : lv_has ls 3 [(0, .ref (ad k)), (1, .ref (ad k2))] := hl
  have h200 := hu.2.2.2.2
  refine lv_aload_n hx hb (dc tbJ5_append_cf1ce_k 0 rfl) rfl (lv_at hl 1 rfl) ?_
  refine lv_ifnonnull (tgt := 9) hx hb (dc tbJ5_append_cf1ce_k 1 rfl) rfl ?_
  refine lv_aload_n hx hb (dc tbJ5_append_cf1ce_k 5 rfl) rfl (lv_at hl 1 rfl) ?_
  refine g_callVi hx hb hml hown hts hK hap hsx hI (tJ0_length_8abf5_ds l hu.1 (e_len_d hu.2.1) H.size) cv_J0_length_8abf5_ds q_t4_31 rfl rfl ⟨Nat.le_of_ble_eq_true rfl, Nat.le_of_ble_eq_true rfl⟩ hu.1.1 (by simp) rfl rfl rfl hl.1 rfl (Nat.le_of_ble_eq_true rfl) (dc tbJ5_append_cf1ce_k 6 rfl) ⟨Nat.le_of_ble_eq_true rfl, Nat.le_of_ble_eq_true rfl⟩ (fun H locs hI => ?_)
  refine lv_istore_n (lv' := [(2, .int (Int32.ofNat u.length)), (0, .ref (ad k)), (1, .ref (ad k2))]) hx hb (dc tbJ5_append_cf1ce_k 7 rfl) rfl hl (by decide) rfl (fun ls hl => ?_)
  refine lv_aload_n hx hb (dc tbJ5_append_cf1ce_k 8 rfl) rfl (lv_at hl 1 rfl) ?_
  refine lv_aload_n hx hb (dc tbJ5_append_cf1ce_k 9 rfl) rfl (lv_at hl 1 rfl) ?_
  refine ggSB_3 hx hb hts hown hK hI hS.1.1 q_t2_52 (dc tbJ5_append_cf1ce_k 10 rfl) ?_
  refine lv_iload_n hx hb (dc tbJ5_append_cf1ce_k 11 rfl) rfl (lv_at hl 0 rfl) ?_
  refine lv_iadd hx hb (dc tbJ5_append_cf1ce_k 12 rfl) ?_
  refine lv_et (b := Int32.ofNat (t.length + u.length)) (by rw [show rd M k 3 = Int32.ofNat t.length from hS.2.2.1]; exact o_add (by omega)) ?_
  refine d_callU (n := 1) hx hb hml hown hts hK hap hsx hI (tJ5_ensureCapacityInternal_d00df l hinj hS.1 hS.2.1 hS.2.2.2.2.1 hq hS.2.2.2.2.2.2.1 H.size (hsu.le hI.2.1)) q_t3_218 q_t5_115 q_t3_220 q_t1_7 q_t3_221 q_wk_0 (by decide +kernel) rfl rfl ⟨Nat.le_of_ble_eq_true rfl, Nat.le_of_ble_eq_true rfl⟩ hS.1.1 (by simp) rfl rfl rfl hl.1 rfl (Nat.le_of_ble_eq_true rfl) (dc tbJ5_append_cf1ce_k 13 rfl) ⟨Nat.le_of_ble_eq_true rfl, Nat.le_of_ble_eq_true rfl⟩ (fun K1 M1 v H locs hP hX hI => ?_)
  have hv0 : v = none := hP.1
  subst hv0
  obtain ⟨a1, m1, hkS, hak1, hqm, hmm, hKe, hMe, haa⟩ := hS.ens hq hak hP
  have hu1 : STx K1 M1 k2 a2 u := by
    obtain ⟨⟨x1, x2⟩, x3, x4, x5, x6⟩ := hu
    have n1 : (kd k2).1 ≠ 0 := by rw [x1]; simp
    have n2 : (kd a2).1 ≠ 0 := by rw [x2]; simp
    refine ⟨⟨(hKe k2 n1 hk2k).trans x1, (hKe a2 n2 ha2k).trans x2⟩, ?_, fun j hj => ?_, x5, x6⟩
    · rw [(hMe k2 n1).1]; exact x3
    · rw [(hMe a2 n2).1]; exact x4 j hj
  have hC := C0.kx hX hinj
  obtain ⟨-, -, -, -, -, -, -, -, hap, hsx⟩ := hC
  refine lv_aload_n hx hb (dc tbJ5_append_cf1ce_k 14 rfl) rfl (lv_at hl 1 rfl) ?_
  refine lv_aload_n hx hb (dc tbJ5_append_cf1ce_k 15 rfl) rfl (lv_at hl 1 rfl) ?_
  refine ggSB_3 hx hb hts hown hK hI hkS.1.1 q_t2_52 (dc tbJ5_append_cf1ce_k 16 rfl) ?_
  refine lv_et (b := Int32.ofNat t.length) hkS.2.2.1 ?_
  refine lv_aload_n hx hb (dc tbJ5_append_cf1ce_k 17 rfl) rfl (lv_at hl 2 rfl) ?_
  refine g_callUv (n := 2) hx hb hml hown hts hK hap hsx hI (tJ5_putStringAt_47b60_ds l hkS.1 hu1.1 (e_put_d (n := t.length) hkS.2.1 hu1.2.1 (by omega) hkS.2.2.2.2.1 (hu1.2.2.1.fit hu1.2.2.2.1)) H.size) q_t4_32 q_t5_117 q_t4_34 q_t1_7 q_t4_35 q_wk_3 (by decide +kernel) rfl rfl ⟨Nat.le_of_ble_eq_true rfl, Nat.le_of_ble_eq_true rfl⟩ hkS.1.1 (by simp) rfl rfl rfl hl.1 rfl (Nat.le_of_ble_eq_true rfl) (dc tbJ5_append_cf1ce_k 18 rfl) ⟨Nat.le_of_ble_eq_true rfl, Nat.le_of_ble_eq_true rfl⟩ (fun H locs hI => ?_)
  refine lv_aload_n hx hb (dc tbJ5_append_cf1ce_k 19 rfl) rfl (lv_at hl 1 rfl) ?_
  refine lv_dup hx hb (dc tbJ5_append_cf1ce_k 20 rfl) rfl ?_
  refine ggSB_3 hx hb hts hown hK hI hkS.1.1 q_t2_52 (dc tbJ5_append_cf1ce_k 21 rfl) ?_
  have hsk : Sm M1 (cpy M1 a2 a1 0 t.length u.length) k := cpy_s1 (Ne.symm hak1)
  refine lv_et (b := Int32.ofNat t.length) (by show (cpy M1 a2 a1 0 t.length u.length).1 k 3 = _; rw [hsk.1]; exact hkS.2.2.1) ?_
  refine lv_iload_n hx hb (dc tbJ5_append_cf1ce_k 22 rfl) rfl (lv_at hl 0 rfl) ?_
  refine lv_iadd hx hb (dc tbJ5_append_cf1ce_k 23 rfl) ?_
  refine lv_et (o_add (by omega)) ?_
  refine gpSB_3 hx hb hts hown hK hap hI hkS.1.1 q_t2_52 (dc tbJ5_append_cf1ce_k 24 rfl) rfl (fun H locs hI => ?_)
  refine lv_aload_n hx hb (dc tbJ5_append_cf1ce_k 25 rfl) rfl (lv_at hl 1 rfl) ?_
  refine W.widen (k := 1) (n := 1000) (Nat.le_of_ble_eq_true rfl) (Nat.le_of_ble_eq_true rfl) ?_
  refine d_aret hx hb hr (Or.inl ⟨_, rfl⟩) hlk hX hI ⟨rfl, a1, m1, hkS.put hak1 hu.2.2.2.1 hqm (fun j => ?_) hsk, hak1, hmm, hKe, fun j hj hjk hja => ?_, haa⟩ (dc tbJ5_append_cf1ce_k 26 rfl)
  · rw [cpy_s]
    unfold va_cpy
    by_cases e : t.length ≤ j ∧ j < t.length + u.length
    · rw [if_pos e, if_pos (by omega), hu1.2.2.1 _ (by omega), Nat.zero_add]
    · rw [if_neg e, if_neg (by omega)]
  · have hja : j ≠ a1 := by
      rcases haa with e | e
      · rw [e]; exact hja
      · exact fun e2 => hj (by rw [e2]; exact e)
    exact ((hMe j hj).trans (cpy_s1 hja)).trans (wr_s1 hjk)
