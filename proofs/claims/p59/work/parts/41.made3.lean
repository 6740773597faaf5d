/-! a text is told -/
theorem o_min2 {a b : Nat} (ha : a < 100000) (hb : b < 100000) (h : b ≤ a) : imin (Int32.ofNat a) (Int32.ofNat b) = Int32.ofNat b := by
  unfold imin
  by_cases e : b < a
  · rw [if_pos (i_lt.mpr (by rw [t_of ha, t_of hb]; omega))]
  · rw [if_neg (fun q => e (by have := i_lt.mp q; rw [t_of ha, t_of hb] at this; omega)), show a = b by omega]
theorem o_s0 {a : Nat} : Int32.ofNat a - 0 = Int32.ofNat a := by
  rw [← Int32.toBitVec_inj]
  show (Int32.ofNat a).toBitVec - 0#32 = _
  simp
abbrev PC (kd : Nat → Nat × Nat) (ad : Nat → Nat) (M : Mem) (k N : Nat) : PS := fun K' M' r => ∃ id, (kd id).1 = 0 ∧ K' = setk kd id (11, N) ∧ M' = cpy (zr M id) k id 0 0 N ∧ r = some (.ref (ad id))
theorem e_ckl {N : Nat} {M : Mem} (h : N < 100000) : mJ7_checkLength_df160 0 (Int32.ofNat N) M = some () := by
  unfold mJ7_checkLength_df160 ite2
  rw [if_pos (i_le.mpr (by rw [t_of h, Int32.toInt_zero]; omega))]
set_option maxHeartbeats 4000000 in
theorem tJ7_copyOfRangeByte (l : Launch) {G : GT} {kd : Nat → Nat × Nat} {ad : Nat → Nat} {M : Mem} {k n0 N : Nat} (hinj : ∀ i j, ad i = ad j → i = j) (hk : kd k = (11, n0)) (hN : N ≤ n0) (hn : n0 ≤ 402) (hft : fitB (M.1 k) n0 = true) (n : Nat) (hsu : Su ad n) :
    Met l yJ7_copyOfRangeByte_39247 (Cond.code yJ7_copyOfRangeByte_39247 cJ7_copyOfRangeByte_39247 5 (some (.array .byte)) :: WA) (rmO 2 1 N) (Pg G kd ad n [.ref (ad k), .int 0, .int (Int32.ofNat N)] M) (Qs G kd ad n (PC kd ad M k N)) 1 N (AS kd ad n) := by
  refine d_body (own := RJ7) (by decide) rfl ?_ (Nat.le_of_ble_eq_true rfl)
  intro p e s m args below meth c C _ hsz H locs ls hI hl
  subst hsz
  obtain ⟨hx, hb, hml, hr, hown, hts, hlk, hK, hap, hsx⟩ := C
  have hl : lv_has ls 5 [(0, .ref (ad k)), (1, .int 0), (2, .int (Int32.ofNat N))] := hl
  refine lv_iload_n hx hb (dc tbJ7_copyOfRangeByte_39247_k 0 rfl) rfl (lv_at hl 1 rfl) ?_
  refine lv_iload_n hx hb (dc tbJ7_copyOfRangeByte_39247_k 1 rfl) rfl (lv_at hl 2 rfl) ?_
  refine g_callSv hx hb hml hown hts hK hap hsx hI (tJ7_checkLength_df160 l (e_ckl (by omega)) H.size) cs_J7_checkLength_df160 q_t4_126 rfl rfl ⟨Nat.le_of_ble_eq_true rfl, Nat.le_of_ble_eq_true rfl⟩ rfl hl.1 rfl (Nat.le_of_ble_eq_true rfl) (dc tbJ7_copyOfRangeByte_39247_k 2 rfl) ⟨Nat.le_of_ble_eq_true rfl, Nat.le_of_ble_eq_true rfl⟩ (fun H locs hI => ?_)
  refine lv_iload_n hx hb (dc tbJ7_copyOfRangeByte_39247_k 3 rfl) rfl (lv_at hl 2 rfl) ?_
  refine lv_iload_n hx hb (dc tbJ7_copyOfRangeByte_39247_k 4 rfl) rfl (lv_at hl 1 rfl) ?_
  refine lv_isub hx hb (dc tbJ7_copyOfRangeByte_39247_k 5 rfl) ?_
  refine lv_et o_s0 ?_
  refine lv_istore_n (lv' := [(3, .int (Int32.ofNat N)), (0, .ref (ad k)), (1, .int 0), (2, .int (Int32.ofNat N))]) hx hb (dc tbJ7_copyOfRangeByte_39247_k 6 rfl) rfl hl (by decide) rfl (fun ls hl => ?_)
  refine lv_iload_n hx hb (dc tbJ7_copyOfRangeByte_39247_k 7 rfl) rfl (lv_at hl 0 rfl) ?_
  obtain ⟨id, hid, -⟩ := hsu H.size hI.2.1
  have h0 := hI.1.fresh hid
  have hki : k ≠ id := fun e => by rw [← e, hk] at h0; exact absurd h0 (by simp)
  have hge : s.heap.size ≤ ad id := by rw [hid]; exact hI.2.1
  refine d_newb hx hb q_t1_69 hts hK hI hid ⟨c_of (by omega), n_of (by omega)⟩ (by omega) ⟨Nat.le_of_ble_eq_true rfl, Nat.le_of_eq (Nat.zero_add N)⟩ dJ7_copyOfRangeByte_39247_10 (fun H1 hI => ?_)
  have hX : Kx kd (setk kd id (11, N)) ad s.heap.size := Kx.set (by simp) (fun _ => hge)
  have hap : Apt (setk kd id (11, N)) ad := fun _ _ _ _ h => hinj _ _ h
  have hk' : setk kd id (11, N) k = (11, n0) := (setk_o hki).trans hk
  refine lv_astore (lv' := [(4, .ref (ad id)), (3, .int (Int32.ofNat N)), (0, .ref (ad k)), (1, .int 0), (2, .int (Int32.ofNat N))]) hx hb (dc tbJ7_copyOfRangeByte_39247_k 8 rfl) hl (by decide) rfl (fun ls hl => ?_)
  refine lv_aload_n hx hb (dc tbJ7_copyOfRangeByte_39247_k 9 rfl) rfl (lv_at hl 2 rfl) ?_
  refine lv_iload_n hx hb (dc tbJ7_copyOfRangeByte_39247_k 10 rfl) rfl (lv_at hl 3 rfl) ?_
  refine lv_aload hx hb (dc tbJ7_copyOfRangeByte_39247_k 11 rfl) (lv_at hl 0 rfl) ?_
  refine lv_iconst (v := 0) hx hb (dc tbJ7_copyOfRangeByte_39247_k 12 rfl) ic_0 ?_
  refine lv_aload_n hx hb (dc tbJ7_copyOfRangeByte_39247_k 13 rfl) rfl (lv_at hl 2 rfl) ?_
  refine g_alenB hx hb hK hI hk' (v := Int32.ofNat n0) rfl (dc tbJ7_copyOfRangeByte_39247_k 14 rfl) ?_
  refine lv_iload_n hx hb (dc tbJ7_copyOfRangeByte_39247_k 15 rfl) rfl (lv_at hl 3 rfl) ?_
  refine lv_isub hx hb (dc tbJ7_copyOfRangeByte_39247_k 16 rfl) ?_
  refine lv_et o_s0 ?_
  refine lv_iload_n hx hb (dc tbJ7_copyOfRangeByte_39247_k 17 rfl) rfl (lv_at hl 1 rfl) ?_
  refine va_mmin hx hb (hml.trans hl.1.symm) hown (hts _ q_t4_7) (hts _ q_t4_8) (hts _ q_t1_12) (hts _ q_t4_9) (Nat.le_of_ble_eq_true rfl) (Nat.le_of_ble_eq_true rfl) (Nat.le_of_ble_eq_true rfl) (Nat.le_of_eq (Nat.zero_add N)) (dc tbJ7_copyOfRangeByte_39247_k 18 rfl) ?_
  refine lv_et (show (if _ then _ else _) = Int32.ofNat N from o_min2 (by omega) (by omega) hN) ?_
  refine g_copyD hx hb (hml.trans hl.1.symm) hown (hts _ q_t4_10) (hts _ q_t3_186) (hts _ q_t3_185) (hts _ q_t1_14) hK hap hI hk' setk_s (cpok_o (a := 0) (b := 0) (c := N) (by omega) (by omega) (by omega) (by omega) (by omega) (by rw [(zr_o (M := M) k hki).1]; exact hft)) ⟨Nat.le_of_ble_eq_true rfl, Nat.le_of_ble_eq_true rfl⟩ (dc tbJ7_copyOfRangeByte_39247_k 19 rfl) rfl (fun H locs hI => ?_)
  refine lv_aload hx hb (dc tbJ7_copyOfRangeByte_39247_k 20 rfl) (lv_at hl 0 rfl) ?_
  refine W.widen (k := 1) (n := N) (Nat.le_of_ble_eq_true rfl) (Nat.le_of_eq (Nat.zero_add N)) ?_
  exact d_aret hx hb hr (Or.inr ⟨_, rfl⟩) hlk hX hI ⟨id, h0, rfl, by rw [c_of (by omega)]; rfl, rfl⟩ (dc tbJ7_copyOfRangeByte_39247_k 21 rfl)
set_option maxHeartbeats 4000000 in
theorem tJ7_copyOfRange (l : Launch) {G : GT} {kd : Nat → Nat × Nat} {ad : Nat → Nat} {M : Mem} {k n0 N : Nat} (hinj : ∀ i j, ad i = ad j → i = j) (hk : kd k = (11, n0)) (hN : N < n0) (hn : n0 ≤ 402) (hft : fitB (M.1 k) n0 = true) (n : Nat) (hsu : Su ad n) :
    Met l yJ7_copyOfRange_39247 (Cond.code yJ7_copyOfRange_39247 cJ7_copyOfRange_39247 3 (some (.array .byte)) :: WA) (rmO 3 1 N) (Pg G kd ad n [.ref (ad k), .int 0, .int (Int32.ofNat N)] M) (Qs G kd ad n (PC kd ad M k N)) 1 N (AS kd ad n) := by
  refine d_body (own := RJ7) (by decide) rfl ?_ (Nat.le_of_ble_eq_true rfl)
  intro p e s m args below meth c C _ hsz H locs ls hI hl
  subst hsz
  obtain ⟨hx, hb, hml, hr, hown, hts, hlk, hK, hap, hsx⟩ := C
  have hl : lv_has ls 3 [(0, .ref (ad k)), (1, .int 0), (2, .int (Int32.ofNat N))] := hl
  refine lv_iload_n hx hb (dc tbJ7_copyOfRange_39247_k 0 rfl) rfl (lv_at hl 1 rfl) ?_
  refine lv_if_ne (tgt := 10) hx hb (dc tbJ7_copyOfRange_39247_k 1 rfl) rfl (fun c9 => absurd rfl c9) (fun _ => ?_)
  refine lv_iload_n hx hb (dc tbJ7_copyOfRange_39247_k 2 rfl) rfl (lv_at hl 2 rfl) ?_
  refine lv_aload_n hx hb (dc tbJ7_copyOfRange_39247_k 3 rfl) rfl (lv_at hl 0 rfl) ?_
  refine g_alenB hx hb hK hI hk (v := Int32.ofNat n0) rfl (dc tbJ7_copyOfRange_39247_k 4 rfl) ?_
  refine lv_icmp_eq (tgt := 17) hx hb (dc tbJ7_copyOfRange_39247_k 5 rfl) rfl (fun c9 => absurd (o_inj (by omega) (by omega) c9) (by omega)) (fun _ => ?_)
  refine lv_aload_n hx hb (dc tbJ7_copyOfRange_39247_k 6 rfl) rfl (lv_at hl 0 rfl) ?_
  refine lv_iload_n hx hb (dc tbJ7_copyOfRange_39247_k 7 rfl) rfl (lv_at hl 1 rfl) ?_
  refine lv_iload_n hx hb (dc tbJ7_copyOfRange_39247_k 8 rfl) rfl (lv_at hl 2 rfl) ?_
  refine d_callS (n := 3) hx hb hml hown hts hK hap hsx hI (tJ7_copyOfRangeByte l hinj hk (by omega) hn hft H.size (hsu.le hI.2.1)) ⟨q_t4_124, q_t1_13, q_t4_125, (by decide +kernel)⟩ q_t4_123 rfl rfl ⟨Nat.le_of_ble_eq_true rfl, Nat.le_of_ble_eq_true rfl⟩ rfl hl.1 rfl (Nat.le_of_ble_eq_true rfl) (dc tbJ7_copyOfRange_39247_k 9 rfl) ⟨Nat.le_of_ble_eq_true rfl, Nat.le_of_eq (Nat.zero_add N)⟩ (fun K1 M1 v H locs hP hX hI => ?_)
  obtain ⟨id, h0, rfl, rfl, rfl⟩ := hP
  refine W.widen (k := 1) (n := N) (Nat.le_of_ble_eq_true rfl) (Nat.le_of_eq (Nat.zero_add N)) ?_
  exact d_aret hx hb hr (Or.inr ⟨_, rfl⟩) hlk hX hI ⟨id, h0, rfl, rfl, rfl⟩ (dc tbJ7_copyOfRange_39247_k 10 rfl)
set_option maxHeartbeats 4000000 in
theorem tJ5_getValue (l : Launch) {G : GT} {kd : Nat → Nat × Nat} {ad : Nat → Nat} {M : Mem} {k a m : Nat} (hk : kSb kd k a m) (n : Nat) :
    Met l yJ5_getValue_6d5f1 (Cond.code yJ5_getValue_6d5f1 cJ5_getValue_6d5f1 1 (some (.array .byte)) :: WA) (rmO 0 0 0) (Pg G kd ad n [.ref (ad k)] M) (Qs G kd ad n (fun K' M' r => K' = kd ∧ M' = M ∧ r = some (.ref (ad a)))) 0 0 (AS kd ad n) := by
  refine d_body (own := RJ5) (by decide) rfl ?_ (Nat.le_of_ble_eq_true rfl)
  intro p e s m' args below meth c C _ hsz H locs ls hI hl
  subst hsz
  obtain ⟨hx, hb, hml, hr, hown, hts, hlk, hK, hap, hsx⟩ := C
  have hl : lv_has ls 1 [(0, .ref (ad k))] := hl
  refine lv_aload_n hx hb (dc tbJ5_getValue_6d5f1_k 0 rfl) rfl (lv_at hl 0 rfl) ?_
  refine ggSB_0 hx hb hts hown hK hI hk.1 q_t2_49 (dc tbJ5_getValue_6d5f1_k 1 rfl) ?_
  exact d_aret hx hb hr (Or.inr ⟨_, rfl⟩) hlk Kx.rf hI ⟨rfl, rfl, rfl⟩ (dc tbJ5_getValue_6d5f1_k 2 rfl)
theorem e_sbl {k a m : Nat} {M : Mem} : mJ4_length_8abf5 k a m M = some (rd M k 3) := rfl
abbrev PI (kd : Nat → Nat × Nat) (M : Mem) (kS : Nat) (t : List Nat) : PS := fun K' M' r => r = none ∧ ∃ id, STx K' M' kS id t ∧ (∀ j, (kd j).1 ≠ 0 → j ≠ kS → K' j = kd j ∧ Sm M M' j) ∧ (kd id).1 = 0
set_option maxHeartbeats 4000000 in
theorem tJ0_init_db425 (l : Launch) {G : GT} {kd : Nat → Nat × Nat} {ad : Nat → Nat} {M : Mem} {kS k a m : Nat} {t : List Nat} (hinj : ∀ i j, ad i = ad j → i = j) (hkS : kd kS = (35, 0)) (hS : SBx kd M k a m t) (hm : t.length < m) (h2 : t.length ≤ 200) (n : Nat) (hsu : Su ad n) :
    Met l yJ0_init_db425 (Cond.code yJ0_init_db425 cJ0_init_db425 5 none :: WA) (rmO 4 1 t.length) (Pg G kd ad n [.ref (ad kS), .ref (ad k), .null] M) (Qs G kd ad n (PI kd M kS t)) 1 t.length (AS kd ad n) := by
  refine d_body (own := RJ0) (by decide) rfl ?_ (Nat.le_of_ble_eq_true rfl)
  intro p e s m' args below meth c C hname hsz H locs ls hI hl
  subst hsz
  have C0 := C
  obtain ⟨hx, hb, hml, hr, hown, hts, hlk, hK, hap, hsx⟩ := C
  have hl : lv_has ls 5 [(0, .ref (ad kS)), (1, .ref (ad k)), (2, .null)] := hl
  have hkk : k ≠ kS := fun e => by have := hS.1.1; rw [e, hkS] at this; exact absurd (congrArg Prod.fst this) (by simp)
  refine lv_aload_n hx hb (dc tbJ0_init_db425_0_k 0 rfl) rfl (lv_at hl 0 rfl) ?_
  refine W.objInit hx hb hown (hts _ q_t4_105) (hts _ q_t1_32) (hts _ q_t1_33) rfl (by rw [hml]; exact hl.1) rfl (dc tbJ0_init_db425_0_k 1 rfl) (Nat.le_of_ble_eq_true rfl) (Nat.le_of_ble_eq_true rfl) ?_
  refine W.eq (g2 := F0 m' 4 ls []) rfl ?_
  refine lv_aload_n hx hb (dc tbJ0_init_db425_0_k 2 rfl) rfl (lv_at hl 1 rfl) ?_
  refine d_callU (n := 0) hx hb hml hown hts hK hap hsx hI (tJ5_getValue l hS.1 H.size) q_t4_106 q_t4_108 q_t4_107 q_t1_7 q_t4_110 q_t4_109 (by decide +kernel) rfl rfl ⟨Nat.le_of_ble_eq_true rfl, Nat.le_of_ble_eq_true rfl⟩ hS.1.1 (by simp) rfl rfl rfl hl.1 rfl (Nat.le_of_ble_eq_true rfl) (dc tbJ0_init_db425_0_k 3 rfl) ⟨Nat.le_of_ble_eq_true rfl, Nat.le_of_ble_eq_true rfl⟩ (fun K1 M1 v H locs hP hX hI9 => ?_)
  obtain ⟨rfl, rfl, rfl⟩ := hP
  have hI := hI9
  refine lv_astore_n (lv' := [(3, .ref (ad a)), (0, .ref (ad kS)), (1, .ref (ad k)), (2, .null)]) hx hb (dc tbJ0_init_db425_0_k 4 rfl) rfl hl (by decide) rfl (fun ls hl => ?_)
  refine lv_aload_n hx hb (dc tbJ0_init_db425_0_k 5 rfl) rfl (lv_at hl 2 rfl) ?_
  refine g_callOi (n := 0) (x := yJ5_length_8abf5) (rm := rmO 1 0 0) (mc := 0) (ms := 0) (b := k) (As := []) (R := rmO 4 1 t.length) (cells := 0 + 0) (slots := 0 + 0) (rest := []) (ls := ls) (pc := 10) hx hb hml hown hts hK hap hsx hI (tJ4_length_8abf5 l hS.1 e_sbl _) q_t4_111 q_t4_113 q_t4_112 q_t4_115 q_t1_8 q_t4_118 q_t4_116 q_t4_114 (by decide +kernel) rfl rfl ⟨by exact Nat.le_of_ble_eq_true rfl, by exact Nat.le_of_ble_eq_true rfl⟩ hS.1.1 (by simp) rfl rfl rfl hl.1 rfl (Nat.le_of_ble_eq_true rfl) (dc tbJ0_init_db425_0_k 6 rfl) ⟨by exact Nat.le_of_ble_eq_true rfl, by exact Nat.le_of_ble_eq_true rfl⟩ (fun H locs hI => ?_)
  refine lv_et (b := Int32.ofNat t.length) hS.2.2.1 ?_
  refine lv_istore (lv' := [(4, .int (Int32.ofNat t.length)), (3, .ref (ad a)), (0, .ref (ad kS)), (1, .ref (ad k)), (2, .null)]) hx hb (dc tbJ0_init_db425_0_k 7 rfl) hl (by decide) rfl (fun ls hl => ?_)
  refine lv_aload_n hx hb (dc tbJ0_init_db425_0_k 8 rfl) rfl (lv_at hl 3 rfl) ?_
  refine g_callUi (n := 0) hx hb hml hown hts hK hap hsx hI (tJ5_isLatin1_aae02 l hS.1 (e_lat hS.2.1) H.size) q_t4_119 q_t4_13 q_t4_12 q_t1_7 q_t4_15 q_t4_14 (by decide +kernel) rfl rfl ⟨Nat.le_of_ble_eq_true rfl, Nat.le_of_ble_eq_true rfl⟩ hS.1.1 (by simp) rfl rfl rfl hl.1 rfl (Nat.le_of_ble_eq_true rfl) (dc tbJ0_init_db425_0_k 9 rfl) ⟨Nat.le_of_ble_eq_true rfl, Nat.le_of_ble_eq_true rfl⟩ (fun H locs hI => ?_)
  refine lv_if_eq (tgt := 41) hx hb (dc tbJ0_init_db425_0_k 10 rfl) rfl (fun c9 => absurd c9 (by decide)) (fun _ => ?_)
  refine lv_aload_n hx hb (dc tbJ0_init_db425_0_k 11 rfl) rfl (lv_at hl 2 rfl) ?_
  refine lv_iconst (v := 0) hx hb (dc tbJ0_init_db425_0_k 12 rfl) ic_0 ?_
  refine d_put true hx hb hts inWJ0 tyJ0 tyJ0_ok nmJ0 hown hK hI hinj (fun _ => hname) (q' := (35, 0)) hkS (by simp) (by simp) rfl rfl 1 (by decide) ⟨rfl, rfl, rfl⟩ q_t4_148 rfl (fun _ => rfl) (ty := .byte) (by decide +kernel) rfl rfl (Nat.le_of_ble_eq_true rfl) (M' := wr M1 kS 1 0) (by rw [wr_s]; rfl) wr_o (dc tbJ0_init_db425_0_k 13 rfl) (fun H locs hI => ?_)
  rw [setk_id hkS] at hI
  refine lv_aload_n hx hb (dc tbJ0_init_db425_0_k 14 rfl) rfl (lv_at hl 2 rfl) ?_
  refine lv_aload_n hx hb (dc tbJ0_init_db425_0_k 15 rfl) rfl (lv_at hl 1 rfl) ?_
  refine lv_iconst (v := 0) hx hb (dc tbJ0_init_db425_0_k 16 rfl) ic_0 ?_
  refine lv_iload hx hb (dc tbJ0_init_db425_0_k 17 rfl) (lv_at hl 0 rfl) ?_
  have hak : a ≠ kS := fun e => by have := hS.1.2; rw [e, hkS] at this; exact absurd (congrArg Prod.fst this) (by simp)
  refine d_callS (n := 3) hx hb hml hown hts hK hap hsx hI (tJ7_copyOfRange l hinj hS.1.2 hm hS.2.2.2.2.1 (by rw [(wr_o (M := M1) (j := 1) (v := 0) a hak).1]; exact hS.2.2.2.2.2.2.1) H.size (hsu.le hI.2.1)) ⟨q_t4_121, q_t1_13, q_t4_122, (by decide +kernel)⟩ q_t4_120 rfl rfl ⟨Nat.le_of_ble_eq_true rfl, Nat.le_of_ble_eq_true rfl⟩ rfl hl.1 rfl (Nat.le_of_ble_eq_true rfl) (dc tbJ0_init_db425_0_k 18 rfl) ⟨Nat.le_of_ble_eq_true rfl, Nat.le_of_eq (Nat.zero_add _)⟩ (fun K2 M2 v H locs hP hX hI => ?_)
  obtain ⟨id, h0, rfl, rfl, rfl⟩ := hP
  have hki : kS ≠ id := fun e => by rw [← e, hkS] at h0; exact absurd h0 (by simp)
  have hai : a ≠ id := fun e => by rw [← e, hS.1.2] at h0; exact absurd h0 (by simp)
  have hk1 : setk K1 id (11, t.length) kS = (35, 0) := (setk_o hki).trans hkS
  refine d_put true hx hb hts inWJ0 tyJ0 tyJ0_ok nmJ0 hown hK hI hinj (fun _ => hname) (q' := (15, id)) hk1 (by simp) (by simp) rfl rfl 0 (by decide) ⟨rfl, rfl, rfl⟩ q_t4_147 rfl (fun _ => rfl) (ty := .array .byte) (by decide +kernel) rfl rfl (Nat.le_of_ble_eq_true rfl) (M' := cpy (zr (wr M1 kS 1 0) id) a id 0 0 t.length) rfl (fun _ _ => ⟨rfl, rfl, rfl⟩) (dc tbJ0_init_db425_0_k 19 rfl) (fun H locs hI => ?_)
  refine lv_goto (tgt := 97) hx hb (dc tbJ0_init_db425_0_k 20 rfl) rfl ?_
  have hS1 : ∀ j, j ≠ id → j ≠ kS → Sm M1 (cpy (zr (wr M1 kS 1 0) id) a id 0 0 t.length) j := fun j h1 h2 => ((wr_s1 h2).trans (zr_s1 h1)).trans (cpy_s1 h1)
  refine W.widen (k := 1) (n := t.length) (Nat.le_of_ble_eq_true rfl) (Nat.le_of_eq (Nat.zero_add _)) ?_
  refine d_vret hx hb hr hlk (hX.trans (Kx.set (by simp) (fun h => absurd h (by rw [hk1]; simp)))) hI ⟨rfl, id, ⟨⟨setk_s, (setk_o (Ne.symm hki)).trans setk_s⟩, ?_, fun j hj => ?_, hS.2.2.2.2.2.2.2, h2⟩, fun j hj hjk => ⟨?_, hS1 j (fun e => hj (by rw [e]; exact h0)) hjk⟩, h0⟩ (dc tbJ0_init_db425_1_k 10 rfl)
  · rw [(cpy_s1 (M := zr (wr M1 kS 1 0) id) (a := a) (sp := 0) (dp := 0) (n := t.length) hki).1, (zr_s1 (M := wr M1 kS 1 0) hki).1, wr_at, if_pos rfl]
  · rw [cpy_s, zr_s.1, (zr_o (M := wr M1 kS 1 0) a hai).1, (wr_o (M := M1) (j := 1) (v := 0) a hak).1]
    unfold va_cpy
    rw [if_pos (by omega), show 0 + (j - 0) = j by omega]
    exact hS.2.2.2.2.2.1 j hj
  · rw [setk_o hjk, setk_o (fun e => hj (by rw [e]; exact h0))]
set_option maxHeartbeats 4000000 in
theorem tJ0_init_81219 (l : Launch) {G : GT} {kd : Nat → Nat × Nat} {ad : Nat → Nat} {M : Mem} {kS k a m : Nat} {t : List Nat} (hinj : ∀ i j, ad i = ad j → i = j) (hkS : kd kS = (35, 0)) (hS : SBx kd M k a m t) (hm : t.length < m) (h2 : t.length ≤ 200) (n : Nat) (hsu : Su ad n) :
    Met l yJ0_init_81219 (Cond.code yJ0_init_81219 cJ0_init_81219 2 none :: WA) (rmO 5 1 t.length) (Pg G kd ad n [.ref (ad kS), .ref (ad k)] M) (Qs G kd ad n (PI kd M kS t)) 1 t.length (AS kd ad n) := by
  refine d_body (own := RJ0) (by decide) rfl ?_ (Nat.le_of_ble_eq_true rfl)
  intro p e s m' args below meth c C _ hsz H locs ls hI hl
  subst hsz
  obtain ⟨hx, hb, hml, hr, hown, hts, hlk, hK, hap, hsx⟩ := C
  have hl : lv_has ls 2 [(0, .ref (ad kS)), (1, .ref (ad k))] := hl
  refine lv_aload_n hx hb (dc tbJ0_init_81219_k 0 rfl) rfl (lv_at hl 0 rfl) ?_
  refine lv_aload_n hx hb (dc tbJ0_init_81219_k 1 rfl) rfl (lv_at hl 1 rfl) ?_
  refine lv_null hx hb (dc tbJ0_init_81219_k 2 rfl) ?_
  refine d_callI (n := 2) (b := kS) (As := [.ref (ad k), .null]) hx hb hml hown hts hK hap hsx hI (tJ0_init_db425 l hinj hkS hS hm h2 H.size (hsu.le hI.2.1)) ⟨q_t1_9, q_t4_103, q_t4_104⟩ q_t4_102 ⟨rfl, by decide +kernel⟩ rfl rfl ⟨Nat.le_of_ble_eq_true rfl, Nat.le_of_ble_eq_true rfl⟩ rfl hl.1 rfl (Nat.le_of_ble_eq_true rfl) (dc tbJ0_init_81219_k 3 rfl) ⟨Nat.le_of_ble_eq_true rfl, Nat.le_of_eq (Nat.zero_add _)⟩ (fun K1 M1 v H locs hP hX hI => ?_)
  have hv0 := hP.1
  subst hv0
  refine W.widen (k := 1) (n := t.length) (Nat.le_of_ble_eq_true rfl) (Nat.le_of_eq (Nat.zero_add _)) ?_
  exact d_vret hx hb hr hlk hX hI hP (dc tbJ0_init_81219_k 4 rfl)
/-- what toString gives -/
abbrev PT (kd : Nat → Nat × Nat) (ad : Nat → Nat) (M : Mem) (t : List Nat) : PS := fun K' M' r => ∃ kS id, r = some (.ref (ad kS)) ∧ STx K' M' kS id t ∧ (∀ j, (kd j).1 ≠ 0 → K' j = kd j ∧ Sm M M' j) ∧ (kd kS).1 = 0 ∧ (kd id).1 = 0
set_option maxHeartbeats 4000000 in
theorem tJ4_toString_0e30d (l : Launch) {G : GT} {kd : Nat → Nat × Nat} {ad : Nat → Nat} {M : Mem} {k a m : Nat} {t : List Nat} (hinj : ∀ i j, ad i = ad j → i = j) (hS : SBx kd M k a m t) (hm : t.length < m) (h2 : t.length ≤ 200) (n : Nat) (hsu : Su ad n) :
    Met l yJ4_toString_0e30d (Cond.code yJ4_toString_0e30d cJ4_toString_0e30d 1 (some (.object "java/lang/String")) :: WA) (rmO 6 2 1000) (Pg G kd ad n [.ref (ad k)] M) (Qs G kd ad n (PT kd ad M t)) 2 1000 (AS kd ad n) := by
  refine d_body (own := RJ4) (by decide) rfl ?_ (Nat.le_of_ble_eq_true rfl)
  intro p e s m' args below meth c C _ hsz H locs ls hI hl
  subst hsz
  have C0 := C
  obtain ⟨hx, hb, hml, hr, hown, hts, hlk, hK, hap, hsx⟩ := C
  have hl : lv_has ls 1 [(0, .ref (ad k))] := hl
  obtain ⟨kS, hid, -⟩ := hsu H.size hI.2.1
  have h0 := hI.1.fresh hid
  have hge : s.heap.size ≤ ad kS := by rw [hid]; exact hI.2.1
  refine d_newo hx hb hts inWJ0 tyJ0 tyJ0_ok hown q_t4_97 q_t4_98 q_t1_9 hK hI hid (q := (35, 0)) (by simp) (ci := 0) rfl (fs := [.null, .int 0, .int 0, .int 0]) rfl (by decide +kernel) ⟨Nat.le_of_ble_eq_true rfl, Nat.le_of_ble_eq_true rfl⟩ (dc tbJ4_toString_0e30d_k 0 rfl) (fun H1 _ hI => ?_)
  have hX : Kx kd (setk kd kS (35, 0)) ad s.heap.size := Kx.set (by simp) (fun _ => hge)
  have hC := C0.kx hX hinj
  obtain ⟨-, -, -, -, -, -, -, -, hap, hsx⟩ := hC
  have hne : ∀ j, (kd j).1 ≠ 0 → j ≠ kS := fun j hj e => hj (by rw [e]; exact h0)
  have hS1 : SBx (setk kd kS (35, 0)) (zr M kS) k a m t := by
    obtain ⟨⟨x1, x2⟩, x3, x4, x5, x6, x7, x8, x9⟩ := hS
    have e1 := hne k (by rw [x1]; simp)
    have e2 := hne a (by rw [x2]; simp)
    have z1 := (zr_s1 (M := M) e1).1
    have z2 := (zr_s1 (M := M) e2).1
    exact ⟨⟨(setk_o e1).trans x1, (setk_o e2).trans x2⟩, by rw [z1]; exact x3, by rw [z1]; exact x4, x5, x6, fun j hj => by rw [z2]; exact x7 j hj, by rw [z2]; exact x8, x9⟩
  refine lv_dup hx hb (dc tbJ4_toString_0e30d_k 1 rfl) rfl ?_
  refine lv_aload_n hx hb (dc tbJ4_toString_0e30d_k 2 rfl) rfl (lv_at hl 0 rfl) ?_
  refine d_callI (n := 1) (b := kS) (As := [.ref (ad k)]) hx hb hml hown hts hK hap hsx hI (tJ0_init_81219 l hinj setk_s hS1 hm h2 H1.size (hsu.le hI.2.1)) ⟨q_t1_9, q_t4_100, q_t4_101⟩ q_t4_99 ⟨rfl, by decide +kernel⟩ rfl rfl ⟨Nat.le_of_ble_eq_true rfl, Nat.le_of_ble_eq_true rfl⟩ rfl hl.1 rfl (Nat.le_of_ble_eq_true rfl) (dc tbJ4_toString_0e30d_k 3 rfl) ⟨Nat.le_of_ble_eq_true rfl, by show 0 + 4 + t.length ≤ 1000; omega⟩ (fun K1 M1 v H locs hP hX1 hI => ?_)
  obtain ⟨rfl, id, hST, hF, hid0⟩ := hP
  refine W.widen (k := 2) (n := 1000) (Nat.le_of_ble_eq_true rfl) (by show 0 + 4 + t.length ≤ 1000; omega) ?_
  refine d_aret hx hb hr (Or.inl ⟨_, rfl⟩) hlk (hX.trans hX1) hI ⟨kS, id, rfl, hST, fun j hj => ?_, h0, ?_⟩ (dc tbJ4_toString_0e30d_k 4 rfl)
  · have e1 := hne j hj
    obtain ⟨f1, f2⟩ := hF j (by rw [setk_o e1]; exact hj) e1
    exact ⟨f1.trans (setk_o e1), (zr_s1 e1).trans f2⟩
  · by_cases e1 : id = kS
    · rw [e1]; exact h0
    · rw [setk_o e1] at hid0; exact hid0
theorem cv_J4_toString_0e30d : cvF RJ4 yJ4_toString_0e30d cJ4_toString_0e30d 1 (some (.object "java/lang/String")) 0 := ⟨q_t4_94, q_t4_95, q_t1_8, q_t4_96, by decide +kernel⟩
