def mX1_putSheet (k0 : Nat) (x1 : Int32) (x2 : Int32) (x3 : Int32) (M : Mem) : Option (Mem × Unit) := bnd (wr M k0 3 x1) (fun M1 => bnd (wr M1 k0 4 x2) (fun M3 => bnd (wr M3 k0 5 x3) (fun M5 => some (M5, ()))))
set_option maxHeartbeats 4000000 in
set_option maxRecDepth 100000 in
theorem tX1_putSheet (l : Launch) {G : GT} {kd : Nat → Nat × Nat} {ad : Nat → Nat} {k0 : Nat} (hk0 : kPart kd k0) {x1 : Int32} {x2 : Int32} {x3 : Int32} {M : Mem} {MO : Mem} {vo : Unit} (hf : mX1_putSheet k0 x1 x2 x3 M = some (MO, vo)) (n : Nat) : Met l yX1_putSheet (Cond.code yX1_putSheet cX1_putSheet 4 none :: WA) (rmO 0 0 0) (Pg G kd ad n [.ref (ad k0), .int x1, .int x2, .int x3] M) (Qg G kd ad n MO none) 0 0 (AS kd ad n) := by
  refine g_body (own := RX1) (by decide) rfl ?_ (Nat.le_of_ble_eq_true rfl)
  intro p e s m args below meth c C _ H locs ls hI hl
  obtain ⟨hx, hb, hml, hr, hown, hts, hlk, hK, hap, hsx⟩ := id C
  have hl : lv_has ls 4 [(0, .ref (ad k0)), (1, .int x1), (2, .int x2), (3, .int x3)] := hl
  unfold mX1_putSheet at hf
  refine lv_aload_n hx hb (dc tbX1_putSheet_k 0 rfl) rfl (lv_at hl 0 rfl) ?_
  refine lv_iload_n hx hb (dc tbX1_putSheet_k 1 rfl) rfl (lv_at hl 1 rfl) ?_
  obtain ⟨M1, e2, hf⟩ := bnd_s hf
  refine gp1_3 hx hb hts hown hK hap hI hk0.1 q_t1_111 (dc tbX1_putSheet_k 2 rfl) e2 (fun H locs hI => ?_)
  refine lv_aload_n hx hb (dc tbX1_putSheet_k 3 rfl) rfl (lv_at hl 0 rfl) ?_
  refine lv_iload_n hx hb (dc tbX1_putSheet_k 4 rfl) rfl (lv_at hl 2 rfl) ?_
  obtain ⟨M3, e4, hf⟩ := bnd_s hf
  refine gp1_4 hx hb hts hown hK hap hI hk0.1 q_t1_113 (dc tbX1_putSheet_k 5 rfl) e4 (fun H locs hI => ?_)
  refine lv_aload_n hx hb (dc tbX1_putSheet_k 6 rfl) rfl (lv_at hl 0 rfl) ?_
  refine lv_iload_n hx hb (dc tbX1_putSheet_k 7 rfl) rfl (lv_at hl 3 rfl) ?_
  obtain ⟨M5, e6, hf⟩ := bnd_s hf
  refine gp1_5 hx hb hts hown hK hap hI hk0.1 q_t1_114 (dc tbX1_putSheet_k 8 rfl) e6 (fun H locs hI => ?_)
  cases hf
  exact g_vret hx hb hr hlk hI (dc tbX1_putSheet_k 9 rfl)
theorem cv_X1_putSheet : cvF RX1 yX1_putSheet cX1_putSheet 4 none 3 := ⟨q_t1_86, q_t1_87, q_t1_3, q_t1_88, by decide +kernel⟩
def mX1_putTool (k0 : Nat) (x1 : Int32) (x2 : Int32) (x3 : Int32) (M : Mem) : Option (Mem × Unit) := ite2 (x1 < 0) (some (M, ())) (ite2 ((5 : Int32) ≤ x1) (some (M, ())) (chk (okb ((2 : Int32) * x1) 10) (bnd (wr M (k0 + 2) (((2 : Int32) * x1)).toNatClampNeg x2) (fun M5 => chk (okb (((2 : Int32) * x1) + (1 : Int32)) 10) (bnd (wr M5 (k0 + 2) ((((2 : Int32) * x1) + (1 : Int32))).toNatClampNeg x3) (fun M8 => some (M8, ())))))))
set_option maxHeartbeats 4000000 in
set_option maxRecDepth 100000 in
theorem tX1_putTool (l : Launch) {G : GT} {kd : Nat → Nat × Nat} {ad : Nat → Nat} {k0 : Nat} (hk0 : kPart kd k0) {x1 : Int32} {x2 : Int32} {x3 : Int32} {M : Mem} {MO : Mem} {vo : Unit} (hf : mX1_putTool k0 x1 x2 x3 M = some (MO, vo)) (n : Nat) : Met l yX1_putTool (Cond.code yX1_putTool cX1_putTool 4 none :: WA) (rmO 0 0 0) (Pg G kd ad n [.ref (ad k0), .int x1, .int x2, .int x3] M) (Qg G kd ad n MO none) 0 0 (AS kd ad n) := by
  refine g_body (own := RX1) (by decide) rfl ?_ (Nat.le_of_ble_eq_true rfl)
  intro p e s m args below meth c C _ H locs ls hI hl
  obtain ⟨hx, hb, hml, hr, hown, hts, hlk, hK, hap, hsx⟩ := id C
  have hl : lv_has ls 4 [(0, .ref (ad k0)), (1, .int x1), (2, .int x2), (3, .int x3)] := hl
  unfold mX1_putTool at hf
  refine lv_iload_n hx hb (dc tbX1_putTool_k 0 rfl) rfl (lv_at hl 1 rfl) ?_
  refine lv_if_lt (tgt := 29) hx hb (dc tbX1_putTool_k 1 rfl) rfl (fun c1 => ?_) (fun c1 => ?_)
  · have hf := ite_t c1 hf
    cases hf
    exact g_vret hx hb hr hlk hI (dc tbX1_putTool_k 21 rfl)
  · have hf := ite_f c1 hf
    refine lv_iload_n hx hb (dc tbX1_putTool_k 2 rfl) rfl (lv_at hl 1 rfl) ?_
    refine lv_iconst (v := 5) hx hb (dc tbX1_putTool_k 3 rfl) ic_5 ?_
    refine lv_icmp_ge (tgt := 29) hx hb (dc tbX1_putTool_k 4 rfl) rfl (fun c2 => ?_) (fun c2 => ?_)
    · have hf := ite_t c2 hf
      cases hf
      exact g_vret hx hb hr hlk hI (dc tbX1_putTool_k 21 rfl)
    · have hf := ite_f c2 hf
      refine lv_aload_n hx hb (dc tbX1_putTool_k 5 rfl) rfl (lv_at hl 0 rfl) ?_
      refine gg1_6 hx hb hts hown hK hI hk0.1 q_t1_115 (dc tbX1_putTool_k 6 rfl) ?_
      refine lv_iconst (v := 2) hx hb (dc tbX1_putTool_k 7 rfl) ic_2 ?_
      refine lv_iload_n hx hb (dc tbX1_putTool_k 8 rfl) rfl (lv_at hl 1 rfl) ?_
      refine lv_imul hx hb (dc tbX1_putTool_k 9 rfl) ?_
      refine lv_iload_n hx hb (dc tbX1_putTool_k 10 rfl) rfl (lv_at hl 2 rfl) ?_
      obtain ⟨h3, hf⟩ := chk_s hf
      obtain ⟨M5, e4, hf⟩ := bnd_s hf
      refine g_iast hx hb hK hap hI hk0.2.2.1 (okb_in h3) (dc tbX1_putTool_k 11 rfl) e4 (fun H locs hI => ?_)
      refine lv_aload_n hx hb (dc tbX1_putTool_k 12 rfl) rfl (lv_at hl 0 rfl) ?_
      refine gg1_6 hx hb hts hown hK hI hk0.1 q_t1_115 (dc tbX1_putTool_k 13 rfl) ?_
      refine lv_iconst (v := 2) hx hb (dc tbX1_putTool_k 14 rfl) ic_2 ?_
      refine lv_iload_n hx hb (dc tbX1_putTool_k 15 rfl) rfl (lv_at hl 1 rfl) ?_
      refine lv_imul hx hb (dc tbX1_putTool_k 16 rfl) ?_
      refine lv_iconst (v := 1) hx hb (dc tbX1_putTool_k 17 rfl) ic_1 ?_
      refine lv_iadd hx hb (dc tbX1_putTool_k 18 rfl) ?_
      refine lv_iload_n hx hb (dc tbX1_putTool_k 19 rfl) rfl (lv_at hl 3 rfl) ?_
      obtain ⟨h6, hf⟩ := chk_s hf
      obtain ⟨M8, e7, hf⟩ := bnd_s hf
      refine g_iast hx hb hK hap hI hk0.2.2.1 (okb_in h6) (dc tbX1_putTool_k 20 rfl) e7 (fun H locs hI => ?_)
      cases hf
      exact g_vret hx hb hr hlk hI (dc tbX1_putTool_k 21 rfl)
theorem cv_X1_putTool : cvF RX1 yX1_putTool cX1_putTool 4 none 3 := ⟨q_t1_90, q_t1_91, q_t1_3, q_t1_92, by decide +kernel⟩
def mX1_putCosts (k0 : Nat) (x1 : Int32) (x2 : Int32) (x3 : Int32) (M : Mem) : Option (Mem × Unit) := bnd (wr M k0 7 x1) (fun M1 => bnd (wr M1 k0 8 x2) (fun M3 => bnd (wr M3 k0 9 x3) (fun M5 => some (M5, ()))))
set_option maxHeartbeats 4000000 in
set_option maxRecDepth 100000 in
theorem tX1_putCosts (l : Launch) {G : GT} {kd : Nat → Nat × Nat} {ad : Nat → Nat} {k0 : Nat} (hk0 : kPart kd k0) {x1 : Int32} {x2 : Int32} {x3 : Int32} {M : Mem} {MO : Mem} {vo : Unit} (hf : mX1_putCosts k0 x1 x2 x3 M = some (MO, vo)) (n : Nat) : Met l yX1_putCosts (Cond.code yX1_putCosts cX1_putCosts 4 none :: WA) (rmO 0 0 0) (Pg G kd ad n [.ref (ad k0), .int x1, .int x2, .int x3] M) (Qg G kd ad n MO none) 0 0 (AS kd ad n) := by
  refine g_body (own := RX1) (by decide) rfl ?_ (Nat.le_of_ble_eq_true rfl)
  intro p e s m args below meth c C _ H locs ls hI hl
  obtain ⟨hx, hb, hml, hr, hown, hts, hlk, hK, hap, hsx⟩ := id C
  have hl : lv_has ls 4 [(0, .ref (ad k0)), (1, .int x1), (2, .int x2), (3, .int x3)] := hl
  unfold mX1_putCosts at hf
  refine lv_aload_n hx hb (dc tbX1_putCosts_k 0 rfl) rfl (lv_at hl 0 rfl) ?_
  refine lv_iload_n hx hb (dc tbX1_putCosts_k 1 rfl) rfl (lv_at hl 1 rfl) ?_
  obtain ⟨M1, e2, hf⟩ := bnd_s hf
  refine gp1_7 hx hb hts hown hK hap hI hk0.1 q_t1_118 (dc tbX1_putCosts_k 2 rfl) e2 (fun H locs hI => ?_)
  refine lv_aload_n hx hb (dc tbX1_putCosts_k 3 rfl) rfl (lv_at hl 0 rfl) ?_
  refine lv_iload_n hx hb (dc tbX1_putCosts_k 4 rfl) rfl (lv_at hl 2 rfl) ?_
  obtain ⟨M3, e4, hf⟩ := bnd_s hf
  refine gp1_8 hx hb hts hown hK hap hI hk0.1 q_t1_120 (dc tbX1_putCosts_k 5 rfl) e4 (fun H locs hI => ?_)
  refine lv_aload_n hx hb (dc tbX1_putCosts_k 6 rfl) rfl (lv_at hl 0 rfl) ?_
  refine lv_iload_n hx hb (dc tbX1_putCosts_k 7 rfl) rfl (lv_at hl 3 rfl) ?_
  obtain ⟨M5, e6, hf⟩ := bnd_s hf
  refine gp1_9 hx hb hts hown hK hap hI hk0.1 q_t1_121 (dc tbX1_putCosts_k 8 rfl) e6 (fun H locs hI => ?_)
  cases hf
  exact g_vret hx hb hr hlk hI (dc tbX1_putCosts_k 9 rfl)
theorem cv_X1_putCosts : cvF RX1 yX1_putCosts cX1_putCosts 4 none 3 := ⟨q_t1_94, q_t1_95, q_t1_3, q_t1_96, by decide +kernel⟩
def mX1_dropSteps (k0 : Nat) (M : Mem) : Option (Mem × Unit) := bnd (wr M k0 13 (0 : Int32)) (fun M1 => bnd (wr M1 k0 14 (0 : Int32)) (fun M3 => some (M3, ())))
set_option maxHeartbeats 4000000 in
set_option maxRecDepth 100000 in
theorem tX1_dropSteps (l : Launch) {G : GT} {kd : Nat → Nat × Nat} {ad : Nat → Nat} {k0 : Nat} (hk0 : kPart kd k0) {M : Mem} {MO : Mem} {vo : Unit} (hf : mX1_dropSteps k0 M = some (MO, vo)) (n : Nat) : Met l yX1_dropSteps (Cond.code yX1_dropSteps cX1_dropSteps 1 none :: WA) (rmO 0 0 0) (Pg G kd ad n [.ref (ad k0)] M) (Qg G kd ad n MO none) 0 0 (AS kd ad n) := by
  refine g_body (own := RX1) (by decide) rfl ?_ (Nat.le_of_ble_eq_true rfl)
  intro p e s m args below meth c C _ H locs ls hI hl
  obtain ⟨hx, hb, hml, hr, hown, hts, hlk, hK, hap, hsx⟩ := id C
  have hl : lv_has ls 1 [(0, .ref (ad k0))] := hl
  unfold mX1_dropSteps at hf
  refine lv_aload_n hx hb (dc tbX1_dropSteps_k 0 rfl) rfl (lv_at hl 0 rfl) ?_
  refine lv_iconst (v := 0) hx hb (dc tbX1_dropSteps_k 1 rfl) ic_0 ?_
  obtain ⟨M1, e2, hf⟩ := bnd_s hf
  refine gp1_13 hx hb hts hown hK hap hI hk0.1 q_t1_126 (dc tbX1_dropSteps_k 2 rfl) e2 (fun H locs hI => ?_)
  refine lv_aload_n hx hb (dc tbX1_dropSteps_k 3 rfl) rfl (lv_at hl 0 rfl) ?_
  refine lv_iconst (v := 0) hx hb (dc tbX1_dropSteps_k 4 rfl) ic_0 ?_
  obtain ⟨M3, e4, hf⟩ := bnd_s hf
  refine gp1_14 hx hb hts hown hK hap hI hk0.1 q_t1_129 (dc tbX1_dropSteps_k 5 rfl) e4 (fun H locs hI => ?_)
  cases hf
  exact g_vret hx hb hr hlk hI (dc tbX1_dropSteps_k 6 rfl)
theorem cv_X1_dropSteps : cvF RX1 yX1_dropSteps cX1_dropSteps 1 none 0 := ⟨q_t1_98, q_t1_99, q_t1_3, q_t1_100, by decide +kernel⟩
def mX1_clear (k0 : Nat) (M : Mem) : Option (Mem × Unit) := bnd (wr M k0 0 (0 : Int32)) (fun M1 => bnd (wr M1 k0 2 (0 : Int32)) (fun M3 => bnd (wr M3 k0 10 (0 : Int32)) (fun M5 => cal (mX1_putSheet k0 (10 : Int32) (10 : Int32) (40 : Int32) M5) (fun M9 _ => cal (mX1_putTool k0 (0 : Int32) (300 : Int32) (600 : Int32) M9) (fun M12 _ => cal (mX1_putTool k0 (1 : Int32) (300 : Int32) (600 : Int32) M12) (fun M15 _ => cal (mX1_putTool k0 (2 : Int32) (200 : Int32) (400 : Int32) M15) (fun M18 _ => cal (mX1_putTool k0 (3 : Int32) (0 : Int32) (9999 : Int32) M18) (fun M21 _ => cal (mX1_putTool k0 (4 : Int32) (0 : Int32) (0 : Int32) M21) (fun M24 _ => cal (mX1_putCosts k0 (1 : Int32) (1 : Int32) (1 : Int32) M24) (fun M27 _ => cal (mX1_dropSteps k0 M27) (fun M30 _ => some (M30, ()))))))))))))
set_option maxHeartbeats 4000000 in
set_option maxRecDepth 100000 in
theorem tX1_clear (l : Launch) {G : GT} {kd : Nat → Nat × Nat} {ad : Nat → Nat} {k0 : Nat} (hk0 : kPart kd k0) {M : Mem} {MO : Mem} {vo : Unit} (hf : mX1_clear k0 M = some (MO, vo)) (n : Nat) : Met l yX1_clear (Cond.code yX1_clear cX1_clear 1 none :: WA) (rmO 1 0 0) (Pg G kd ad n [.ref (ad k0)] M) (Qg G kd ad n MO none) 0 0 (AS kd ad n) := by
  refine g_body (own := RX1) (by decide) rfl ?_ (Nat.le_of_ble_eq_true rfl)
  intro p e s m args below meth c C _ H locs ls hI hl
  obtain ⟨hx, hb, hml, hr, hown, hts, hlk, hK, hap, hsx⟩ := id C
  have hl : lv_has ls 1 [(0, .ref (ad k0))] := hl
  unfold mX1_clear at hf
  refine lv_aload_n hx hb (dc tbX1_clear_0_k 0 rfl) rfl (lv_at hl 0 rfl) ?_
  refine lv_iconst (v := 0) hx hb (dc tbX1_clear_0_k 1 rfl) ic_0 ?_
  obtain ⟨M1, e2, hf⟩ := bnd_s hf
  refine gp1_0 hx hb hts hown hK hap hI hk0.1 q_t1_101 (dc tbX1_clear_0_k 2 rfl) e2 (fun H locs hI => ?_)
  refine lv_aload_n hx hb (dc tbX1_clear_0_k 3 rfl) rfl (lv_at hl 0 rfl) ?_
  refine lv_iconst (v := 0) hx hb (dc tbX1_clear_0_k 4 rfl) ic_0 ?_
  obtain ⟨M3, e4, hf⟩ := bnd_s hf
  refine gp1_2 hx hb hts hown hK hap hI hk0.1 q_t1_108 (dc tbX1_clear_0_k 5 rfl) e4 (fun H locs hI => ?_)
  refine lv_aload_n hx hb (dc tbX1_clear_0_k 6 rfl) rfl (lv_at hl 0 rfl) ?_
  refine lv_iconst (v := 0) hx hb (dc tbX1_clear_0_k 7 rfl) ic_0 ?_
  obtain ⟨M5, e6, hf⟩ := bnd_s hf
  refine gp1_10 hx hb hts hown hK hap hI hk0.1 q_t1_122 (dc tbX1_clear_0_k 8 rfl) e6 (fun H locs hI => ?_)
  refine lv_aload_n hx hb (dc tbX1_clear_0_k 9 rfl) rfl (lv_at hl 0 rfl) ?_
  refine lv_bipush (v := 10) hx hb (dc tbX1_clear_0_k 10 rfl) bp_10 ?_
  refine lv_bipush (v := 10) hx hb (dc tbX1_clear_0_k 11 rfl) bp_10 ?_
  refine lv_bipush (v := 40) hx hb (dc tbX1_clear_0_k 12 rfl) bp_40 ?_
  obtain ⟨M9, r8, q7, hf⟩ := cal_s hf
  refine g_callVv hx hb hml hown hts hK hap hsx hI (tX1_putSheet l hk0 q7 H.size) cv_X1_putSheet q_t1_85 rfl rfl ⟨Nat.le_of_ble_eq_true rfl, Nat.le_of_ble_eq_true rfl⟩ hk0.1 (by simp) rfl rfl rfl hl.1 rfl (Nat.le_of_ble_eq_true rfl) (dc tbX1_clear_0_k 13 rfl) ⟨Nat.le_of_ble_eq_true rfl, Nat.le_of_ble_eq_true rfl⟩ (fun H locs hI => ?_)
  refine lv_aload_n hx hb (dc tbX1_clear_0_k 14 rfl) rfl (lv_at hl 0 rfl) ?_
  refine lv_iconst (v := 0) hx hb (dc tbX1_clear_0_k 15 rfl) ic_0 ?_
  refine lv_sipush (v := 300) hx hb (dc tbX1_clear_0_k 16 rfl) sp_300 ?_
  refine lv_sipush (v := 600) hx hb (dc tbX1_clear_0_k 17 rfl) sp_600 ?_
  obtain ⟨M12, r11, q10, hf⟩ := cal_s hf
  refine g_callVv hx hb hml hown hts hK hap hsx hI (tX1_putTool l hk0 q10 H.size) cv_X1_putTool q_t1_89 rfl rfl ⟨Nat.le_of_ble_eq_true rfl, Nat.le_of_ble_eq_true rfl⟩ hk0.1 (by simp) rfl rfl rfl hl.1 rfl (Nat.le_of_ble_eq_true rfl) (dc tbX1_clear_0_k 18 rfl) ⟨Nat.le_of_ble_eq_true rfl, Nat.le_of_ble_eq_true rfl⟩ (fun H locs hI => ?_)
  refine lv_aload_n hx hb (dc tbX1_clear_0_k 19 rfl) rfl (lv_at hl 0 rfl) ?_
  refine lv_iconst (v := 1) hx hb (dc tbX1_clear_0_k 20 rfl) ic_1 ?_
  refine lv_sipush (v := 300) hx hb (dc tbX1_clear_0_k 21 rfl) sp_300 ?_
  refine lv_sipush (v := 600) hx hb (dc tbX1_clear_0_k 22 rfl) sp_600 ?_
  obtain ⟨M15, r14, q13, hf⟩ := cal_s hf
  refine g_callVv hx hb hml hown hts hK hap hsx hI (tX1_putTool l hk0 q13 H.size) cv_X1_putTool q_t1_89 rfl rfl ⟨Nat.le_of_ble_eq_true rfl, Nat.le_of_ble_eq_true rfl⟩ hk0.1 (by simp) rfl rfl rfl hl.1 rfl (Nat.le_of_ble_eq_true rfl) (dc tbX1_clear_0_k 23 rfl) ⟨Nat.le_of_ble_eq_true rfl, Nat.le_of_ble_eq_true rfl⟩ (fun H locs hI => ?_)
  refine lv_aload_n hx hb (dc tbX1_clear_0_k 24 rfl) rfl (lv_at hl 0 rfl) ?_
  refine lv_iconst (v := 2) hx hb (dc tbX1_clear_0_k 25 rfl) ic_2 ?_
  refine lv_sipush (v := 200) hx hb (dc tbX1_clear_0_k 26 rfl) sp_200 ?_
  refine lv_sipush (v := 400) hx hb (dc tbX1_clear_0_k 27 rfl) sp_400 ?_
  obtain ⟨M18, r17, q16, hf⟩ := cal_s hf
  refine g_callVv hx hb hml hown hts hK hap hsx hI (tX1_putTool l hk0 q16 H.size) cv_X1_putTool q_t1_89 rfl rfl ⟨Nat.le_of_ble_eq_true rfl, Nat.le_of_ble_eq_true rfl⟩ hk0.1 (by simp) rfl rfl rfl hl.1 rfl (Nat.le_of_ble_eq_true rfl) (dc tbX1_clear_0_k 28 rfl) ⟨Nat.le_of_ble_eq_true rfl, Nat.le_of_ble_eq_true rfl⟩ (fun H locs hI => ?_)
  refine lv_aload_n hx hb (dc tbX1_clear_0_k 29 rfl) rfl (lv_at hl 0 rfl) ?_
  refine lv_iconst (v := 3) hx hb (dc tbX1_clear_0_k 30 rfl) ic_3 ?_
  refine lv_iconst (v := 0) hx hb (dc tbX1_clear_0_k 31 rfl) ic_0 ?_
  refine lv_sipush (v := 9999) hx hb (dc tbX1_clear_0_k 32 rfl) sp_9999 ?_
  obtain ⟨M21, r20, q19, hf⟩ := cal_s hf
  refine g_callVv hx hb hml hown hts hK hap hsx hI (tX1_putTool l hk0 q19 H.size) cv_X1_putTool q_t1_89 rfl rfl ⟨Nat.le_of_ble_eq_true rfl, Nat.le_of_ble_eq_true rfl⟩ hk0.1 (by simp) rfl rfl rfl hl.1 rfl (Nat.le_of_ble_eq_true rfl) (dc tbX1_clear_0_k 33 rfl) ⟨Nat.le_of_ble_eq_true rfl, Nat.le_of_ble_eq_true rfl⟩ (fun H locs hI => ?_)
  refine lv_aload_n hx hb (dc tbX1_clear_0_k 34 rfl) rfl (lv_at hl 0 rfl) ?_
  refine lv_iconst (v := 4) hx hb (dc tbX1_clear_0_k 35 rfl) ic_4 ?_
  refine lv_iconst (v := 0) hx hb (dc tbX1_clear_0_k 36 rfl) ic_0 ?_
  refine lv_iconst (v := 0) hx hb (dc tbX1_clear_0_k 37 rfl) ic_0 ?_
  obtain ⟨M24, r23, q22, hf⟩ := cal_s hf
  refine g_callVv hx hb hml hown hts hK hap hsx hI (tX1_putTool l hk0 q22 H.size) cv_X1_putTool q_t1_89 rfl rfl ⟨Nat.le_of_ble_eq_true rfl, Nat.le_of_ble_eq_true rfl⟩ hk0.1 (by simp) rfl rfl rfl hl.1 rfl (Nat.le_of_ble_eq_true rfl) (dc tbX1_clear_0_k 38 rfl) ⟨Nat.le_of_ble_eq_true rfl, Nat.le_of_ble_eq_true rfl⟩ (fun H locs hI => ?_)
  refine lv_aload_n hx hb (dc tbX1_clear_0_k 39 rfl) rfl (lv_at hl 0 rfl) ?_
  refine lv_iconst (v := 1) hx hb (dc tbX1_clear_1_k 0 rfl) ic_1 ?_
  refine lv_iconst (v := 1) hx hb (dc tbX1_clear_1_k 1 rfl) ic_1 ?_
  refine lv_iconst (v := 1) hx hb (dc tbX1_clear_1_k 2 rfl) ic_1 ?_
  obtain ⟨M27, r26, q25, hf⟩ := cal_s hf
  refine g_callVv hx hb hml hown hts hK hap hsx hI (tX1_putCosts l hk0 q25 H.size) cv_X1_putCosts q_t1_93 rfl rfl ⟨Nat.le_of_ble_eq_true rfl, Nat.le_of_ble_eq_true rfl⟩ hk0.1 (by simp) rfl rfl rfl hl.1 rfl (Nat.le_of_ble_eq_true rfl) (dc tbX1_clear_1_k 3 rfl) ⟨Nat.le_of_ble_eq_true rfl, Nat.le_of_ble_eq_true rfl⟩ (fun H locs hI => ?_)
  refine lv_aload_n hx hb (dc tbX1_clear_1_k 4 rfl) rfl (lv_at hl 0 rfl) ?_
  obtain ⟨M30, r29, q28, hf⟩ := cal_s hf
  refine g_callVv hx hb hml hown hts hK hap hsx hI (tX1_dropSteps l hk0 q28 H.size) cv_X1_dropSteps q_t1_97 rfl rfl ⟨Nat.le_of_ble_eq_true rfl, Nat.le_of_ble_eq_true rfl⟩ hk0.1 (by simp) rfl rfl rfl hl.1 rfl (Nat.le_of_ble_eq_true rfl) (dc tbX1_clear_1_k 5 rfl) ⟨Nat.le_of_ble_eq_true rfl, Nat.le_of_ble_eq_true rfl⟩ (fun H locs hI => ?_)
  cases hf
  exact g_vret hx hb hr hlk hI (dc tbX1_clear_1_k 6 rfl)
theorem cv_X1_clear : cvF RX1 yX1_clear cX1_clear 1 none 0 := ⟨q_t1_82, q_t1_83, q_t1_3, q_t1_84, by decide +kernel⟩
def mX1_copyFrom (k0 : Nat) (k1 : Nat) (M : Mem) : Option (Mem × Unit) := bnd (wr M k0 0 (rd M k1 0)) (fun M1 => bnd (cpy M1 (k1 + 1) (k0 + 1) 0 0 9) (fun M3 => bnd (wr M3 k0 2 (rd M3 k1 2)) (fun M5 => cal (mX1_putSheet k0 (rd M5 k1 3) (rd M5 k1 4) (rd M5 k1 5) M5) (fun M9 _ => bnd (cpy M9 (k1 + 2) (k0 + 2) 0 0 10) (fun M10 => cal (mX1_putCosts k0 (rd M10 k1 7) (rd M10 k1 8) (rd M10 k1 9) M10) (fun M14 _ => bnd (wr M14 k0 10 (rd M14 k1 10)) (fun M15 => bnd (cpy M15 (k1 + 3) (k0 + 3) 0 0 8) (fun M17 => bnd (cpy M17 (k1 + 4) (k0 + 4) 0 0 8) (fun M19 => bnd (wr M19 k0 13 (rd M19 k1 13)) (fun M21 => bnd (wr M21 k0 14 (rd M21 k1 14)) (fun M23 => bnd (cpy M23 (k1 + 5) (k0 + 5) 0 0 8) (fun M25 => bnd (cpy M25 (k1 + 6) (k0 + 6) 0 0 8) (fun M27 => bnd (cpy M27 (k1 + 7) (k0 + 7) 0 0 8) (fun M29 => some (M29, ())))))))))))))))
set_option maxHeartbeats 4000000 in
set_option maxRecDepth 100000 in
theorem tX1_copyFrom (l : Launch) {G : GT} {kd : Nat → Nat × Nat} {ad : Nat → Nat} {k0 : Nat} {k1 : Nat} (hk0 : kPart kd k0) (hk1 : kPart kd k1) {M : Mem} {MO : Mem} {vo : Unit} (hf : mX1_copyFrom k0 k1 M = some (MO, vo)) (n : Nat) : Met l yX1_copyFrom (Cond.code yX1_copyFrom cX1_copyFrom 2 none :: WA) (rmO 1 0 0) (Pg G kd ad n [.ref (ad k0), .ref (ad k1)] M) (Qg G kd ad n MO none) 0 0 (AS kd ad n) := by
  refine g_body (own := RX1) (by decide) rfl ?_ (Nat.le_of_ble_eq_true rfl)
  intro p e s m args below meth c C _ H locs ls hI hl
  obtain ⟨hx, hb, hml, hr, hown, hts, hlk, hK, hap, hsx⟩ := id C
  have hl : lv_has ls 2 [(0, .ref (ad k0)), (1, .ref (ad k1))] := hl
  unfold mX1_copyFrom at hf
  refine lv_aload_n hx hb (dc tbX1_copyFrom_0_k 0 rfl) rfl (lv_at hl 0 rfl) ?_
  refine lv_aload_n hx hb (dc tbX1_copyFrom_0_k 1 rfl) rfl (lv_at hl 1 rfl) ?_
  refine gg1_0 hx hb hts hown hK hI hk1.1 q_t1_101 (dc tbX1_copyFrom_0_k 2 rfl) ?_
  obtain ⟨M1, e2, hf⟩ := bnd_s hf
  refine gp1_0 hx hb hts hown hK hap hI hk0.1 q_t1_101 (dc tbX1_copyFrom_0_k 3 rfl) e2 (fun H locs hI => ?_)
  refine lv_aload_n hx hb (dc tbX1_copyFrom_0_k 4 rfl) rfl (lv_at hl 1 rfl) ?_
  refine gg1_1 hx hb hts hown hK hI hk1.1 q_t1_105 (dc tbX1_copyFrom_0_k 5 rfl) ?_
  refine lv_iconst (v := 0) hx hb (dc tbX1_copyFrom_0_k 6 rfl) ic_0 ?_
  refine lv_aload_n hx hb (dc tbX1_copyFrom_0_k 7 rfl) rfl (lv_at hl 0 rfl) ?_
  refine gg1_1 hx hb hts hown hK hI hk0.1 q_t1_105 (dc tbX1_copyFrom_0_k 8 rfl) ?_
  refine lv_iconst (v := 0) hx hb (dc tbX1_copyFrom_0_k 9 rfl) ic_0 ?_
  refine lv_bipush (v := 9) hx hb (dc tbX1_copyFrom_0_k 10 rfl) bp_9 ?_
  obtain ⟨M3, e4, hf⟩ := bnd_s hf
  refine g_copy hx hb (hml.trans hl.1.symm) hown (hts _ q_t3_87) (hts _ q_t3_89) (hts _ q_t3_88) (hts _ q_t1_20) hK hap hI hk1.2.1 hk0.2.1 (N := 9) rfl rfl (by decide) (Nat.le_of_ble_eq_true rfl) (Nat.le_of_ble_eq_true rfl) ⟨Nat.le_of_ble_eq_true rfl, Nat.le_of_ble_eq_true rfl⟩ (dc tbX1_copyFrom_0_k 11 rfl) e4 (fun H locs hI => ?_)
  refine lv_aload_n hx hb (dc tbX1_copyFrom_0_k 12 rfl) rfl (lv_at hl 0 rfl) ?_
  refine lv_aload_n hx hb (dc tbX1_copyFrom_0_k 13 rfl) rfl (lv_at hl 1 rfl) ?_
  refine gg1_2 hx hb hts hown hK hI hk1.1 q_t1_108 (dc tbX1_copyFrom_0_k 14 rfl) ?_
  obtain ⟨M5, e6, hf⟩ := bnd_s hf
  refine gp1_2 hx hb hts hown hK hap hI hk0.1 q_t1_108 (dc tbX1_copyFrom_0_k 15 rfl) e6 (fun H locs hI => ?_)
  refine lv_aload_n hx hb (dc tbX1_copyFrom_0_k 16 rfl) rfl (lv_at hl 0 rfl) ?_
  refine lv_aload_n hx hb (dc tbX1_copyFrom_0_k 17 rfl) rfl (lv_at hl 1 rfl) ?_
  refine gg1_3 hx hb hts hown hK hI hk1.1 q_t1_111 (dc tbX1_copyFrom_0_k 18 rfl) ?_
  refine lv_aload_n hx hb (dc tbX1_copyFrom_0_k 19 rfl) rfl (lv_at hl 1 rfl) ?_
  refine gg1_4 hx hb hts hown hK hI hk1.1 q_t1_113 (dc tbX1_copyFrom_0_k 20 rfl) ?_
  refine lv_aload_n hx hb (dc tbX1_copyFrom_0_k 21 rfl) rfl (lv_at hl 1 rfl) ?_
  refine gg1_5 hx hb hts hown hK hI hk1.1 q_t1_114 (dc tbX1_copyFrom_0_k 22 rfl) ?_
  obtain ⟨M9, r8, q7, hf⟩ := cal_s hf
  refine g_callVv hx hb hml hown hts hK hap hsx hI (tX1_putSheet l hk0 q7 H.size) cv_X1_putSheet q_t1_85 rfl rfl ⟨Nat.le_of_ble_eq_true rfl, Nat.le_of_ble_eq_true rfl⟩ hk0.1 (by simp) rfl rfl rfl hl.1 rfl (Nat.le_of_ble_eq_true rfl) (dc tbX1_copyFrom_0_k 23 rfl) ⟨Nat.le_of_ble_eq_true rfl, Nat.le_of_ble_eq_true rfl⟩ (fun H locs hI => ?_)
  refine lv_aload_n hx hb (dc tbX1_copyFrom_0_k 24 rfl) rfl (lv_at hl 1 rfl) ?_
  refine gg1_6 hx hb hts hown hK hI hk1.1 q_t1_115 (dc tbX1_copyFrom_0_k 25 rfl) ?_
  refine lv_iconst (v := 0) hx hb (dc tbX1_copyFrom_0_k 26 rfl) ic_0 ?_
  refine lv_aload_n hx hb (dc tbX1_copyFrom_0_k 27 rfl) rfl (lv_at hl 0 rfl) ?_
  refine gg1_6 hx hb hts hown hK hI hk0.1 q_t1_115 (dc tbX1_copyFrom_0_k 28 rfl) ?_
  refine lv_iconst (v := 0) hx hb (dc tbX1_copyFrom_0_k 29 rfl) ic_0 ?_
  refine lv_bipush (v := 10) hx hb (dc tbX1_copyFrom_0_k 30 rfl) bp_10 ?_
  obtain ⟨M10, e11, hf⟩ := bnd_s hf
  refine g_copy hx hb (hml.trans hl.1.symm) hown (hts _ q_t3_87) (hts _ q_t3_89) (hts _ q_t3_88) (hts _ q_t1_20) hK hap hI hk1.2.2.1 hk0.2.2.1 (N := 10) rfl rfl (by decide) (Nat.le_of_ble_eq_true rfl) (Nat.le_of_ble_eq_true rfl) ⟨Nat.le_of_ble_eq_true rfl, Nat.le_of_ble_eq_true rfl⟩ (dc tbX1_copyFrom_0_k 31 rfl) e11 (fun H locs hI => ?_)
  refine lv_aload_n hx hb (dc tbX1_copyFrom_0_k 32 rfl) rfl (lv_at hl 0 rfl) ?_
  refine lv_aload_n hx hb (dc tbX1_copyFrom_0_k 33 rfl) rfl (lv_at hl 1 rfl) ?_
  refine gg1_7 hx hb hts hown hK hI hk1.1 q_t1_118 (dc tbX1_copyFrom_0_k 34 rfl) ?_
  refine lv_aload_n hx hb (dc tbX1_copyFrom_0_k 35 rfl) rfl (lv_at hl 1 rfl) ?_
  refine gg1_8 hx hb hts hown hK hI hk1.1 q_t1_120 (dc tbX1_copyFrom_0_k 36 rfl) ?_
  refine lv_aload_n hx hb (dc tbX1_copyFrom_0_k 37 rfl) rfl (lv_at hl 1 rfl) ?_
  refine gg1_9 hx hb hts hown hK hI hk1.1 q_t1_121 (dc tbX1_copyFrom_0_k 38 rfl) ?_
  obtain ⟨M14, r13, q12, hf⟩ := cal_s hf
  refine g_callVv hx hb hml hown hts hK hap hsx hI (tX1_putCosts l hk0 q12 H.size) cv_X1_putCosts q_t1_93 rfl rfl ⟨Nat.le_of_ble_eq_true rfl, Nat.le_of_ble_eq_true rfl⟩ hk0.1 (by simp) rfl rfl rfl hl.1 rfl (Nat.le_of_ble_eq_true rfl) (dc tbX1_copyFrom_0_k 39 rfl) ⟨Nat.le_of_ble_eq_true rfl, Nat.le_of_ble_eq_true rfl⟩ (fun H locs hI => ?_)
  refine lv_aload_n hx hb (dc tbX1_copyFrom_1_k 0 rfl) rfl (lv_at hl 0 rfl) ?_
  refine lv_aload_n hx hb (dc tbX1_copyFrom_1_k 1 rfl) rfl (lv_at hl 1 rfl) ?_
  refine gg1_10 hx hb hts hown hK hI hk1.1 q_t1_122 (dc tbX1_copyFrom_1_k 2 rfl) ?_
  obtain ⟨M15, e16, hf⟩ := bnd_s hf
  refine gp1_10 hx hb hts hown hK hap hI hk0.1 q_t1_122 (dc tbX1_copyFrom_1_k 3 rfl) e16 (fun H locs hI => ?_)
  refine lv_aload_n hx hb (dc tbX1_copyFrom_1_k 4 rfl) rfl (lv_at hl 1 rfl) ?_
  refine gg1_11 hx hb hts hown hK hI hk1.1 q_t1_124 (dc tbX1_copyFrom_1_k 5 rfl) ?_
  refine lv_iconst (v := 0) hx hb (dc tbX1_copyFrom_1_k 6 rfl) ic_0 ?_
  refine lv_aload_n hx hb (dc tbX1_copyFrom_1_k 7 rfl) rfl (lv_at hl 0 rfl) ?_
  refine gg1_11 hx hb hts hown hK hI hk0.1 q_t1_124 (dc tbX1_copyFrom_1_k 8 rfl) ?_
  refine lv_iconst (v := 0) hx hb (dc tbX1_copyFrom_1_k 9 rfl) ic_0 ?_
  refine lv_bipush (v := 8) hx hb (dc tbX1_copyFrom_1_k 10 rfl) bp_8 ?_
  obtain ⟨M17, e18, hf⟩ := bnd_s hf
  refine g_copy hx hb (hml.trans hl.1.symm) hown (hts _ q_t3_87) (hts _ q_t3_89) (hts _ q_t3_88) (hts _ q_t1_20) hK hap hI hk1.2.2.2.1 hk0.2.2.2.1 (N := 8) rfl rfl (by decide) (Nat.le_of_ble_eq_true rfl) (Nat.le_of_ble_eq_true rfl) ⟨Nat.le_of_ble_eq_true rfl, Nat.le_of_ble_eq_true rfl⟩ (dc tbX1_copyFrom_1_k 11 rfl) e18 (fun H locs hI => ?_)
  refine lv_aload_n hx hb (dc tbX1_copyFrom_1_k 12 rfl) rfl (lv_at hl 1 rfl) ?_
  refine gg1_12 hx hb hts hown hK hI hk1.1 q_t1_125 (dc tbX1_copyFrom_1_k 13 rfl) ?_
  refine lv_iconst (v := 0) hx hb (dc tbX1_copyFrom_1_k 14 rfl) ic_0 ?_
  refine lv_aload_n hx hb (dc tbX1_copyFrom_1_k 15 rfl) rfl (lv_at hl 0 rfl) ?_
  refine gg1_12 hx hb hts hown hK hI hk0.1 q_t1_125 (dc tbX1_copyFrom_1_k 16 rfl) ?_
  refine lv_iconst (v := 0) hx hb (dc tbX1_copyFrom_1_k 17 rfl) ic_0 ?_
  refine lv_bipush (v := 8) hx hb (dc tbX1_copyFrom_1_k 18 rfl) bp_8 ?_
  obtain ⟨M19, e20, hf⟩ := bnd_s hf
  refine g_copy hx hb (hml.trans hl.1.symm) hown (hts _ q_t3_87) (hts _ q_t3_89) (hts _ q_t3_88) (hts _ q_t1_20) hK hap hI hk1.2.2.2.2.1 hk0.2.2.2.2.1 (N := 8) rfl rfl (by decide) (Nat.le_of_ble_eq_true rfl) (Nat.le_of_ble_eq_true rfl) ⟨Nat.le_of_ble_eq_true rfl, Nat.le_of_ble_eq_true rfl⟩ (dc tbX1_copyFrom_1_k 19 rfl) e20 (fun H locs hI => ?_)
  refine lv_aload_n hx hb (dc tbX1_copyFrom_1_k 20 rfl) rfl (lv_at hl 0 rfl) ?_
  refine lv_aload_n hx hb (dc tbX1_copyFrom_1_k 21 rfl) rfl (lv_at hl 1 rfl) ?_
  refine gg1_13 hx hb hts hown hK hI hk1.1 q_t1_126 (dc tbX1_copyFrom_1_k 22 rfl) ?_
  obtain ⟨M21, e22, hf⟩ := bnd_s hf
  refine gp1_13 hx hb hts hown hK hap hI hk0.1 q_t1_126 (dc tbX1_copyFrom_1_k 23 rfl) e22 (fun H locs hI => ?_)
  refine lv_aload_n hx hb (dc tbX1_copyFrom_1_k 24 rfl) rfl (lv_at hl 0 rfl) ?_
  refine lv_aload_n hx hb (dc tbX1_copyFrom_1_k 25 rfl) rfl (lv_at hl 1 rfl) ?_
  refine gg1_14 hx hb hts hown hK hI hk1.1 q_t1_129 (dc tbX1_copyFrom_1_k 26 rfl) ?_
  obtain ⟨M23, e24, hf⟩ := bnd_s hf
  refine gp1_14 hx hb hts hown hK hap hI hk0.1 q_t1_129 (dc tbX1_copyFrom_1_k 27 rfl) e24 (fun H locs hI => ?_)
  refine lv_aload_n hx hb (dc tbX1_copyFrom_1_k 28 rfl) rfl (lv_at hl 1 rfl) ?_
  refine gg1_15 hx hb hts hown hK hI hk1.1 q_t1_131 (dc tbX1_copyFrom_1_k 29 rfl) ?_
  refine lv_iconst (v := 0) hx hb (dc tbX1_copyFrom_1_k 30 rfl) ic_0 ?_
  refine lv_aload_n hx hb (dc tbX1_copyFrom_1_k 31 rfl) rfl (lv_at hl 0 rfl) ?_
  refine gg1_15 hx hb hts hown hK hI hk0.1 q_t1_131 (dc tbX1_copyFrom_1_k 32 rfl) ?_
  refine lv_iconst (v := 0) hx hb (dc tbX1_copyFrom_1_k 33 rfl) ic_0 ?_
  refine lv_bipush (v := 8) hx hb (dc tbX1_copyFrom_1_k 34 rfl) bp_8 ?_
  obtain ⟨M25, e26, hf⟩ := bnd_s hf
  refine g_copy hx hb (hml.trans hl.1.symm) hown (hts _ q_t3_87) (hts _ q_t3_89) (hts _ q_t3_88) (hts _ q_t1_20) hK hap hI hk1.2.2.2.2.2.1 hk0.2.2.2.2.2.1 (N := 8) rfl rfl (by decide) (Nat.le_of_ble_eq_true rfl) (Nat.le_of_ble_eq_true rfl) ⟨Nat.le_of_ble_eq_true rfl, Nat.le_of_ble_eq_true rfl⟩ (dc tbX1_copyFrom_1_k 35 rfl) e26 (fun H locs hI => ?_)
  refine lv_aload_n hx hb (dc tbX1_copyFrom_1_k 36 rfl) rfl (lv_at hl 1 rfl) ?_
  refine gg1_16 hx hb hts hown hK hI hk1.1 q_t1_133 (dc tbX1_copyFrom_1_k 37 rfl) ?_
  refine lv_iconst (v := 0) hx hb (dc tbX1_copyFrom_1_k 38 rfl) ic_0 ?_
  refine lv_aload_n hx hb (dc tbX1_copyFrom_1_k 39 rfl) rfl (lv_at hl 0 rfl) ?_
  refine gg1_16 hx hb hts hown hK hI hk0.1 q_t1_133 (dc tbX1_copyFrom_2_k 0 rfl) ?_
  refine lv_iconst (v := 0) hx hb (dc tbX1_copyFrom_2_k 1 rfl) ic_0 ?_
  refine lv_bipush (v := 8) hx hb (dc tbX1_copyFrom_2_k 2 rfl) bp_8 ?_
  obtain ⟨M27, e28, hf⟩ := bnd_s hf
  refine g_copy hx hb (hml.trans hl.1.symm) hown (hts _ q_t3_87) (hts _ q_t3_89) (hts _ q_t3_88) (hts _ q_t1_20) hK hap hI hk1.2.2.2.2.2.2.1 hk0.2.2.2.2.2.2.1 (N := 8) rfl rfl (by decide) (Nat.le_of_ble_eq_true rfl) (Nat.le_of_ble_eq_true rfl) ⟨Nat.le_of_ble_eq_true rfl, Nat.le_of_ble_eq_true rfl⟩ (dc tbX1_copyFrom_2_k 3 rfl) e28 (fun H locs hI => ?_)
  refine lv_aload_n hx hb (dc tbX1_copyFrom_2_k 4 rfl) rfl (lv_at hl 1 rfl) ?_
  refine gg1_17 hx hb hts hown hK hI hk1.1 q_t1_135 (dc tbX1_copyFrom_2_k 5 rfl) ?_
  refine lv_iconst (v := 0) hx hb (dc tbX1_copyFrom_2_k 6 rfl) ic_0 ?_
  refine lv_aload_n hx hb (dc tbX1_copyFrom_2_k 7 rfl) rfl (lv_at hl 0 rfl) ?_
  refine gg1_17 hx hb hts hown hK hI hk0.1 q_t1_135 (dc tbX1_copyFrom_2_k 8 rfl) ?_
  refine lv_iconst (v := 0) hx hb (dc tbX1_copyFrom_2_k 9 rfl) ic_0 ?_
  refine lv_bipush (v := 8) hx hb (dc tbX1_copyFrom_2_k 10 rfl) bp_8 ?_
  obtain ⟨M29, e30, hf⟩ := bnd_s hf
  refine g_copy hx hb (hml.trans hl.1.symm) hown (hts _ q_t3_87) (hts _ q_t3_89) (hts _ q_t3_88) (hts _ q_t1_20) hK hap hI hk1.2.2.2.2.2.2.2 hk0.2.2.2.2.2.2.2 (N := 8) rfl rfl (by decide) (Nat.le_of_ble_eq_true rfl) (Nat.le_of_ble_eq_true rfl) ⟨Nat.le_of_ble_eq_true rfl, Nat.le_of_ble_eq_true rfl⟩ (dc tbX1_copyFrom_2_k 11 rfl) e30 (fun H locs hI => ?_)
  cases hf
  exact g_vret hx hb hr hlk hI (dc tbX1_copyFrom_2_k 12 rfl)
theorem cv_X1_copyFrom : cvF RX1 yX1_copyFrom cX1_copyFrom 2 none 1 := ⟨q_t3_84, q_t3_85, q_t1_3, q_t3_86, by decide +kernel⟩
def mX1_addBack (k0 : Nat) (x1 : Int32) (x2 : Int32) (M : Mem) : Option (Mem × Unit) := ite2 ((8 : Int32) ≤ (rd M k0 10)) (some (M, ())) (chk (okb (rd M k0 10) 8) (bnd (wr M (k0 + 3) ((rd M k0 10)).toNatClampNeg x1) (fun M4 => chk (okb (rd M4 k0 10) 8) (bnd (wr M4 (k0 + 4) ((rd M4 k0 10)).toNatClampNeg x2) (fun M7 => bnd (wr M7 k0 10 ((rd M7 k0 10) + (1 : Int32))) (fun M8 => some (M8, ())))))))
set_option maxHeartbeats 4000000 in
set_option maxRecDepth 100000 in
theorem tX1_addBack (l : Launch) {G : GT} {kd : Nat → Nat × Nat} {ad : Nat → Nat} {k0 : Nat} (hk0 : kPart kd k0) {x1 : Int32} {x2 : Int32} {M : Mem} {MO : Mem} {vo : Unit} (hf : mX1_addBack k0 x1 x2 M = some (MO, vo)) (n : Nat) : Met l yX1_addBack (Cond.code yX1_addBack cX1_addBack 3 none :: WA) (rmO 0 0 0) (Pg G kd ad n [.ref (ad k0), .int x1, .int x2] M) (Qg G kd ad n MO none) 0 0 (AS kd ad n) := by
  refine g_body (own := RX1) (by decide) rfl ?_ (Nat.le_of_ble_eq_true rfl)
  intro p e s m args below meth c C _ H locs ls hI hl
  obtain ⟨hx, hb, hml, hr, hown, hts, hlk, hK, hap, hsx⟩ := id C
  have hl : lv_has ls 3 [(0, .ref (ad k0)), (1, .int x1), (2, .int x2)] := hl
  unfold mX1_addBack at hf
  refine lv_aload_n hx hb (dc tbX1_addBack_k 0 rfl) rfl (lv_at hl 0 rfl) ?_
  refine gg1_10 hx hb hts hown hK hI hk0.1 q_t1_122 (dc tbX1_addBack_k 1 rfl) ?_
  refine lv_bipush (v := 8) hx hb (dc tbX1_addBack_k 2 rfl) bp_8 ?_
  refine lv_icmp_ge (tgt := 39) hx hb (dc tbX1_addBack_k 3 rfl) rfl (fun c1 => ?_) (fun c1 => ?_)
  · have hf := ite_t c1 hf
    cases hf
    exact g_vret hx hb hr hlk hI (dc tbX1_addBack_k 22 rfl)
  · have hf := ite_f c1 hf
    refine lv_aload_n hx hb (dc tbX1_addBack_k 4 rfl) rfl (lv_at hl 0 rfl) ?_
    refine gg1_11 hx hb hts hown hK hI hk0.1 q_t1_124 (dc tbX1_addBack_k 5 rfl) ?_
    refine lv_aload_n hx hb (dc tbX1_addBack_k 6 rfl) rfl (lv_at hl 0 rfl) ?_
    refine gg1_10 hx hb hts hown hK hI hk0.1 q_t1_122 (dc tbX1_addBack_k 7 rfl) ?_
    refine lv_iload_n hx hb (dc tbX1_addBack_k 8 rfl) rfl (lv_at hl 1 rfl) ?_
    obtain ⟨h2, hf⟩ := chk_s hf
    obtain ⟨M4, e3, hf⟩ := bnd_s hf
    refine g_iast hx hb hK hap hI hk0.2.2.2.1 (okb_in h2) (dc tbX1_addBack_k 9 rfl) e3 (fun H locs hI => ?_)
    refine lv_aload_n hx hb (dc tbX1_addBack_k 10 rfl) rfl (lv_at hl 0 rfl) ?_
    refine gg1_12 hx hb hts hown hK hI hk0.1 q_t1_125 (dc tbX1_addBack_k 11 rfl) ?_
    refine lv_aload_n hx hb (dc tbX1_addBack_k 12 rfl) rfl (lv_at hl 0 rfl) ?_
    refine gg1_10 hx hb hts hown hK hI hk0.1 q_t1_122 (dc tbX1_addBack_k 13 rfl) ?_
    refine lv_iload_n hx hb (dc tbX1_addBack_k 14 rfl) rfl (lv_at hl 2 rfl) ?_
    obtain ⟨h5, hf⟩ := chk_s hf
    obtain ⟨M7, e6, hf⟩ := bnd_s hf
    refine g_iast hx hb hK hap hI hk0.2.2.2.2.1 (okb_in h5) (dc tbX1_addBack_k 15 rfl) e6 (fun H locs hI => ?_)
    refine lv_aload_n hx hb (dc tbX1_addBack_k 16 rfl) rfl (lv_at hl 0 rfl) ?_
    refine lv_dup hx hb (dc tbX1_addBack_k 17 rfl) rfl ?_
    refine gg1_10 hx hb hts hown hK hI hk0.1 q_t1_122 (dc tbX1_addBack_k 18 rfl) ?_
    refine lv_iconst (v := 1) hx hb (dc tbX1_addBack_k 19 rfl) ic_1 ?_
    refine lv_iadd hx hb (dc tbX1_addBack_k 20 rfl) ?_
    obtain ⟨M8, e9, hf⟩ := bnd_s hf
    refine gp1_10 hx hb hts hown hK hap hI hk0.1 q_t1_122 (dc tbX1_addBack_k 21 rfl) e9 (fun H locs hI => ?_)
    cases hf
    exact g_vret hx hb hr hlk hI (dc tbX1_addBack_k 22 rfl)
theorem cv_X1_addBack : cvF RX1 yX1_addBack cX1_addBack 3 none 2 := ⟨q_t5_235, q_t5_236, q_t1_3, q_t5_237, by decide +kernel⟩
def mX1_lastBackRatio (k0 : Nat) (M : Mem) : Option Int32 := ite2 ((rd M k0 10) ≤ 0) (some (-1 : Int32)) (chk (okb ((rd M k0 10) - (1 : Int32)) 8) (some (rd M (k0 + 3) (((rd M k0 10) - (1 : Int32))).toNatClampNeg)))
set_option maxHeartbeats 4000000 in
set_option maxRecDepth 100000 in
theorem tX1_lastBackRatio (l : Launch) {G : GT} {kd : Nat → Nat × Nat} {ad : Nat → Nat} {k0 : Nat} (hk0 : kPart kd k0) {M : Mem} {vo : Int32} (hf : mX1_lastBackRatio k0 M = some vo) (n : Nat) : Met l yX1_lastBackRatio (Cond.code yX1_lastBackRatio cX1_lastBackRatio 1 (some .int) :: WA) (rmO 0 0 0) (Pg G kd ad n [.ref (ad k0)] M) (Qg G kd ad n M (some (.int vo))) 0 0 (AS kd ad n) := by
  refine g_body (own := RX1) (by decide) rfl ?_ (Nat.le_of_ble_eq_true rfl)
  intro p e s m args below meth c C _ H locs ls hI hl
  obtain ⟨hx, hb, hml, hr, hown, hts, hlk, hK, hap, hsx⟩ := id C
  have hl : lv_has ls 1 [(0, .ref (ad k0))] := hl
  unfold mX1_lastBackRatio at hf
  refine lv_aload_n hx hb (dc tbX1_lastBackRatio_k 0 rfl) rfl (lv_at hl 0 rfl) ?_
  refine gg1_10 hx hb hts hown hK hI hk0.1 q_t1_122 (dc tbX1_lastBackRatio_k 1 rfl) ?_
  refine lv_if_le (tgt := 21) hx hb (dc tbX1_lastBackRatio_k 2 rfl) rfl (fun c1 => ?_) (fun c1 => ?_)
  · have hf := ite_t c1 hf
    refine lv_iconst (v := -1) hx hb (dc tbX1_lastBackRatio_k 11 rfl) ic_m1 ?_
    cases hf
    exact g_iret hx hb hr hlk hI (dc tbX1_lastBackRatio_k 12 rfl)
  · have hf := ite_f c1 hf
    refine lv_aload_n hx hb (dc tbX1_lastBackRatio_k 3 rfl) rfl (lv_at hl 0 rfl) ?_
    refine gg1_11 hx hb hts hown hK hI hk0.1 q_t1_124 (dc tbX1_lastBackRatio_k 4 rfl) ?_
    refine lv_aload_n hx hb (dc tbX1_lastBackRatio_k 5 rfl) rfl (lv_at hl 0 rfl) ?_
    refine gg1_10 hx hb hts hown hK hI hk0.1 q_t1_122 (dc tbX1_lastBackRatio_k 6 rfl) ?_
    refine lv_iconst (v := 1) hx hb (dc tbX1_lastBackRatio_k 7 rfl) ic_1 ?_
    refine lv_isub hx hb (dc tbX1_lastBackRatio_k 8 rfl) ?_
    obtain ⟨h2, hf⟩ := chk_s hf
    refine g_iald hx hb hK hI hk0.2.2.2.1 (okb_in h2) (dc tbX1_lastBackRatio_k 9 rfl) ?_
    refine lv_goto (tgt := 22) hx hb (dc tbX1_lastBackRatio_k 10 rfl) rfl ?_
    cases hf
    exact g_iret hx hb hr hlk hI (dc tbX1_lastBackRatio_k 12 rfl)
theorem cv_X1_lastBackRatio : cvF RX1 yX1_lastBackRatio cX1_lastBackRatio 1 (some .int) 0 := ⟨q_t5_205, q_t5_206, q_t1_3, q_t5_207, by decide +kernel⟩
def mX1_addLeg_b47 (k0 : Nat) (M : Mem) : Option (Mem × Unit) := bnd (wr M k0 0 ((rd M k0 0) + (1 : Int32))) (fun M6 => some (M6, ()))
set_option maxHeartbeats 4000000 in
set_option maxRecDepth 100000 in
theorem tX1_addLeg_b47 {p : Program} {l : Launch} {e : Env} {s : State} {m : MethodId} {args : Array Value} {below : List Frame} {meth : Method} {c : Code} {G : GT} {kd : Nat → Nat × Nat} {ad : Nat → Nat} (C : Cx p s m args meth c cX1_addLeg 3 none RX1 G kd ad) {k0 : Nat} (hk0 : kPart kd k0) {MO : Mem} {vo : Unit}   : ∀  (M : Mem), mX1_addLeg_b47 k0 M = some (MO, vo) → At p l e (rmO 0 0 0) s m args below meth c 0 0 (MQ below (Qg G kd ad s.heap.size MO none) args s 0 0 (AS kd ad s.heap.size)) G kd ad 3 47 [(0, .ref (ad k0))] [] M := by
  intro M hf H locs ls hI hl
  obtain ⟨hx, hb, hml, hr, hown, hts, hlk, hK, hap, hsx⟩ := id C
  unfold mX1_addLeg_b47 at hf
  refine lv_aload_n hx hb (dc tbX1_addLeg_k 26 rfl) rfl (lv_at hl 0 rfl) ?_
  refine lv_dup hx hb (dc tbX1_addLeg_k 27 rfl) rfl ?_
  refine gg1_0 hx hb hts hown hK hI hk0.1 q_t1_101 (dc tbX1_addLeg_k 28 rfl) ?_
  refine lv_iconst (v := 1) hx hb (dc tbX1_addLeg_k 29 rfl) ic_1 ?_
  refine lv_iadd hx hb (dc tbX1_addLeg_k 30 rfl) ?_
  obtain ⟨M6, e7, hf⟩ := bnd_s hf
  refine gp1_0 hx hb hts hown hK hap hI hk0.1 q_t1_101 (dc tbX1_addLeg_k 31 rfl) e7 (fun H locs hI => ?_)
  cases hf
  exact g_vret hx hb hr hlk hI (dc tbX1_addLeg_k 32 rfl)
def mX1_addLeg (k0 : Nat) (x1 : Int32) (x2 : Int32) (M : Mem) : Option (Mem × Unit) := ite2 ((9 : Int32) ≤ (rd M k0 0)) (some (M, ())) (chk (okb (rd M k0 0) 9) (bnd (wr M (k0 + 1) ((rd M k0 0)).toNatClampNeg x1) (fun M4 => ite2 ((rd M4 k0 0) ≤ 0) (mX1_addLeg_b47 k0 M4) (ite2 (x2 = 0) (mX1_addLeg_b47 k0 M4) (bnd (wr M4 k0 2 ((rd M4 k0 2) ||| ((1 : Int32) <<< (((rd M4 k0 0) - (1 : Int32)) &&& 31)))) (fun M9 => mX1_addLeg_b47 k0 M9))))))
set_option maxHeartbeats 4000000 in
set_option maxRecDepth 100000 in
theorem tX1_addLeg (l : Launch) {G : GT} {kd : Nat → Nat × Nat} {ad : Nat → Nat} {k0 : Nat} (hk0 : kPart kd k0) {x1 : Int32} {x2 : Int32} {M : Mem} {MO : Mem} {vo : Unit} (hf : mX1_addLeg k0 x1 x2 M = some (MO, vo)) (n : Nat) : Met l yX1_addLeg (Cond.code yX1_addLeg cX1_addLeg 3 none :: WA) (rmO 0 0 0) (Pg G kd ad n [.ref (ad k0), .int x1, .int x2] M) (Qg G kd ad n MO none) 0 0 (AS kd ad n) := by
  refine g_body (own := RX1) (by decide) rfl ?_ (Nat.le_of_ble_eq_true rfl)
  intro p e s m args below meth c C _ H locs ls hI hl
  obtain ⟨hx, hb, hml, hr, hown, hts, hlk, hK, hap, hsx⟩ := id C
  have hl : lv_has ls 3 [(0, .ref (ad k0)), (1, .int x1), (2, .int x2)] := hl
  unfold mX1_addLeg at hf
  refine lv_aload_n hx hb (dc tbX1_addLeg_k 0 rfl) rfl (lv_at hl 0 rfl) ?_
  refine gg1_0 hx hb hts hown hK hI hk0.1 q_t1_101 (dc tbX1_addLeg_k 1 rfl) ?_
  refine lv_bipush (v := 9) hx hb (dc tbX1_addLeg_k 2 rfl) bp_9 ?_
  refine lv_icmp_ge (tgt := 57) hx hb (dc tbX1_addLeg_k 3 rfl) rfl (fun c1 => ?_) (fun c1 => ?_)
  · have hf := ite_t c1 hf
    cases hf
    exact g_vret hx hb hr hlk hI (dc tbX1_addLeg_k 32 rfl)
  · have hf := ite_f c1 hf
    refine lv_aload_n hx hb (dc tbX1_addLeg_k 4 rfl) rfl (lv_at hl 0 rfl) ?_
    refine gg1_1 hx hb hts hown hK hI hk0.1 q_t1_105 (dc tbX1_addLeg_k 5 rfl) ?_
    refine lv_aload_n hx hb (dc tbX1_addLeg_k 6 rfl) rfl (lv_at hl 0 rfl) ?_
    refine gg1_0 hx hb hts hown hK hI hk0.1 q_t1_101 (dc tbX1_addLeg_k 7 rfl) ?_
    refine lv_iload_n hx hb (dc tbX1_addLeg_k 8 rfl) rfl (lv_at hl 1 rfl) ?_
    obtain ⟨h2, hf⟩ := chk_s hf
    obtain ⟨M4, e3, hf⟩ := bnd_s hf
    refine g_iast hx hb hK hap hI hk0.2.1 (okb_in h2) (dc tbX1_addLeg_k 9 rfl) e3 (fun H locs hI => ?_)
    refine lv_aload_n hx hb (dc tbX1_addLeg_k 10 rfl) rfl (lv_at hl 0 rfl) ?_
    refine gg1_0 hx hb hts hown hK hI hk0.1 q_t1_101 (dc tbX1_addLeg_k 11 rfl) ?_
    refine lv_if_le (tgt := 47) hx hb (dc tbX1_addLeg_k 12 rfl) rfl (fun c5 => ?_) (fun c5 => ?_)
    · have hf := ite_t c5 hf
      exact tX1_addLeg_b47 C hk0 M4 hf _ _ _ hI (lv_sub hl [0] rfl)
    · have hf := ite_f c5 hf
      refine lv_iload_n hx hb (dc tbX1_addLeg_k 13 rfl) rfl (lv_at hl 2 rfl) ?_
      refine lv_if_eq (tgt := 47) hx hb (dc tbX1_addLeg_k 14 rfl) rfl (fun c8 => ?_) (fun c8 => ?_)
      · have hf := ite_t c8 hf
        exact tX1_addLeg_b47 C hk0 M4 hf _ _ _ hI (lv_sub hl [0] rfl)
      · have hf := ite_f c8 hf
        refine lv_aload_n hx hb (dc tbX1_addLeg_k 15 rfl) rfl (lv_at hl 0 rfl) ?_
        refine lv_dup hx hb (dc tbX1_addLeg_k 16 rfl) rfl ?_
        refine gg1_2 hx hb hts hown hK hI hk0.1 q_t1_108 (dc tbX1_addLeg_k 17 rfl) ?_
        refine lv_iconst (v := 1) hx hb (dc tbX1_addLeg_k 18 rfl) ic_1 ?_
        refine lv_aload_n hx hb (dc tbX1_addLeg_k 19 rfl) rfl (lv_at hl 0 rfl) ?_
        refine gg1_0 hx hb hts hown hK hI hk0.1 q_t1_101 (dc tbX1_addLeg_k 20 rfl) ?_
        refine lv_iconst (v := 1) hx hb (dc tbX1_addLeg_k 21 rfl) ic_1 ?_
        refine lv_isub hx hb (dc tbX1_addLeg_k 22 rfl) ?_
        refine lv_ishl hx hb (dc tbX1_addLeg_k 23 rfl) ?_
        refine lv_ior hx hb (dc tbX1_addLeg_k 24 rfl) ?_
        obtain ⟨M9, e10, hf⟩ := bnd_s hf
        refine gp1_2 hx hb hts hown hK hap hI hk0.1 q_t1_108 (dc tbX1_addLeg_k 25 rfl) e10 (fun H locs hI => ?_)
        exact tX1_addLeg_b47 C hk0 M9 hf _ _ _ hI (lv_sub hl [0] rfl)
theorem cv_X1_addLeg : cvF RX1 yX1_addLeg cX1_addLeg 3 none 2 := ⟨q_t6_0, q_t6_1, q_t1_3, q_t6_2, by decide +kernel⟩
def mX1_bendCount (k0 : Nat) (M : Mem) : Option Int32 := ite2 ((rd M k0 0) ≤ 0) (some (0 : Int32)) (some ((rd M k0 0) - (1 : Int32)))
set_option maxHeartbeats 4000000 in
set_option maxRecDepth 100000 in
theorem tX1_bendCount (l : Launch) {G : GT} {kd : Nat → Nat × Nat} {ad : Nat → Nat} {k0 : Nat} (hk0 : kPart kd k0) {M : Mem} {vo : Int32} (hf : mX1_bendCount k0 M = some vo) (n : Nat) : Met l yX1_bendCount (Cond.code yX1_bendCount cX1_bendCount 1 (some .int) :: WA) (rmO 0 0 0) (Pg G kd ad n [.ref (ad k0)] M) (Qg G kd ad n M (some (.int vo))) 0 0 (AS kd ad n) := by
  refine g_body (own := RX1) (by decide) rfl ?_ (Nat.le_of_ble_eq_true rfl)
  intro p e s m args below meth c C _ H locs ls hI hl
  obtain ⟨hx, hb, hml, hr, hown, hts, hlk, hK, hap, hsx⟩ := id C
  have hl : lv_has ls 1 [(0, .ref (ad k0))] := hl
  unfold mX1_bendCount at hf
  refine lv_aload_n hx hb (dc tbX1_bendCount_k 0 rfl) rfl (lv_at hl 0 rfl) ?_
  refine gg1_0 hx hb hts hown hK hI hk0.1 q_t1_101 (dc tbX1_bendCount_k 1 rfl) ?_
  refine lv_if_le (tgt := 16) hx hb (dc tbX1_bendCount_k 2 rfl) rfl (fun c1 => ?_) (fun c1 => ?_)
  · have hf := ite_t c1 hf
    refine lv_iconst (v := 0) hx hb (dc tbX1_bendCount_k 8 rfl) ic_0 ?_
    cases hf
    exact g_iret hx hb hr hlk hI (dc tbX1_bendCount_k 9 rfl)
  · have hf := ite_f c1 hf
    refine lv_aload_n hx hb (dc tbX1_bendCount_k 3 rfl) rfl (lv_at hl 0 rfl) ?_
    refine gg1_0 hx hb hts hown hK hI hk0.1 q_t1_101 (dc tbX1_bendCount_k 4 rfl) ?_
    refine lv_iconst (v := 1) hx hb (dc tbX1_bendCount_k 5 rfl) ic_1 ?_
    refine lv_isub hx hb (dc tbX1_bendCount_k 6 rfl) ?_
    refine lv_goto (tgt := 17) hx hb (dc tbX1_bendCount_k 7 rfl) rfl ?_
    cases hf
    exact g_iret hx hb hr hlk hI (dc tbX1_bendCount_k 9 rfl)
theorem cv_X1_bendCount : cvF RX1 yX1_bendCount cX1_bendCount 1 (some .int) 0 := ⟨q_t2_131, q_t2_132, q_t1_3, q_t2_133, by decide +kernel⟩
def mX1_allBends (k0 : Nat) (M : Mem) : Option Int32 := cap (mX1_bendCount k0 M) (fun r2 => some (((1 : Int32) <<< (r2 &&& 31)) - (1 : Int32)))
set_option maxHeartbeats 4000000 in
set_option maxRecDepth 100000 in
theorem tX1_allBends (l : Launch) {G : GT} {kd : Nat → Nat × Nat} {ad : Nat → Nat} {k0 : Nat} (hk0 : kPart kd k0) {M : Mem} {vo : Int32} (hf : mX1_allBends k0 M = some vo) (n : Nat) : Met l yX1_allBends (Cond.code yX1_allBends cX1_allBends 1 (some .int) :: WA) (rmO 1 0 0) (Pg G kd ad n [.ref (ad k0)] M) (Qg G kd ad n M (some (.int vo))) 0 0 (AS kd ad n) := by
  refine g_body (own := RX1) (by decide) rfl ?_ (Nat.le_of_ble_eq_true rfl)
  intro p e s m args below meth c C _ H locs ls hI hl
  obtain ⟨hx, hb, hml, hr, hown, hts, hlk, hK, hap, hsx⟩ := id C
  have hl : lv_has ls 1 [(0, .ref (ad k0))] := hl
  unfold mX1_allBends at hf
  refine lv_iconst (v := 1) hx hb (dc tbX1_allBends_k 0 rfl) ic_1 ?_
  refine lv_aload_n hx hb (dc tbX1_allBends_k 1 rfl) rfl (lv_at hl 0 rfl) ?_
  obtain ⟨r2, q1, hf⟩ := cap_s hf
  refine g_callVi hx hb hml hown hts hK hap hsx hI (tX1_bendCount l hk0 q1 H.size) cv_X1_bendCount q_t2_194 rfl rfl ⟨Nat.le_of_ble_eq_true rfl, Nat.le_of_ble_eq_true rfl⟩ hk0.1 (by simp) rfl rfl rfl hl.1 rfl (Nat.le_of_ble_eq_true rfl) (dc tbX1_allBends_k 2 rfl) ⟨Nat.le_of_ble_eq_true rfl, Nat.le_of_ble_eq_true rfl⟩ (fun H locs hI => ?_)
  refine lv_ishl hx hb (dc tbX1_allBends_k 3 rfl) ?_
  refine lv_iconst (v := 1) hx hb (dc tbX1_allBends_k 4 rfl) ic_1 ?_
  refine lv_isub hx hb (dc tbX1_allBends_k 5 rfl) ?_
  cases hf
  exact g_iret hx hb hr hlk hI (dc tbX1_allBends_k 6 rfl)
theorem cv_X1_allBends : cvF RX1 yX1_allBends cX1_allBends 1 (some .int) 0 := ⟨q_t2_191, q_t2_192, q_t1_3, q_t2_193, by decide +kernel⟩
def mX1_goesUp (k0 : Nat) (x1 : Int32) (M : Mem) : Option Int32 := ite2 ((((rd M k0 2) >>> (x1 &&& 31)) &&& (1 : Int32)) = 0) (some (0 : Int32)) (some (1 : Int32))
set_option maxHeartbeats 4000000 in
set_option maxRecDepth 100000 in
theorem tX1_goesUp (l : Launch) {G : GT} {kd : Nat → Nat × Nat} {ad : Nat → Nat} {k0 : Nat} (hk0 : kPart kd k0) {x1 : Int32} {M : Mem} {vo : Int32} (hf : mX1_goesUp k0 x1 M = some vo) (n : Nat) : Met l yX1_goesUp (Cond.code yX1_goesUp cX1_goesUp 2 (some .boolean) :: WA) (rmO 0 0 0) (Pg G kd ad n [.ref (ad k0), .int x1] M) (Qg G kd ad n M (some (.int vo))) 0 0 (AS kd ad n) := by
  refine g_body (own := RX1) (by decide) rfl ?_ (Nat.le_of_ble_eq_true rfl)
  intro p e s m args below meth c C _ H locs ls hI hl
  obtain ⟨hx, hb, hml, hr, hown, hts, hlk, hK, hap, hsx⟩ := id C
  have hl : lv_has ls 2 [(0, .ref (ad k0)), (1, .int x1)] := hl
  unfold mX1_goesUp at hf
  refine lv_aload_n hx hb (dc tbX1_goesUp_k 0 rfl) rfl (lv_at hl 0 rfl) ?_
  refine gg1_2 hx hb hts hown hK hI hk0.1 q_t1_108 (dc tbX1_goesUp_k 1 rfl) ?_
  refine lv_iload_n hx hb (dc tbX1_goesUp_k 2 rfl) rfl (lv_at hl 1 rfl) ?_
  refine lv_ishr hx hb (dc tbX1_goesUp_k 3 rfl) ?_
  refine lv_iconst (v := 1) hx hb (dc tbX1_goesUp_k 4 rfl) ic_1 ?_
  refine lv_iand hx hb (dc tbX1_goesUp_k 5 rfl) ?_
  refine lv_if_eq (tgt := 15) hx hb (dc tbX1_goesUp_k 6 rfl) rfl (fun c1 => ?_) (fun c1 => ?_)
  · have hf := ite_t c1 hf
    refine lv_iconst (v := 0) hx hb (dc tbX1_goesUp_k 9 rfl) ic_0 ?_
    cases hf
    exact g_zret hx hb hr hlk hI rfl (dc tbX1_goesUp_k 10 rfl)
  · have hf := ite_f c1 hf
    refine lv_iconst (v := 1) hx hb (dc tbX1_goesUp_k 7 rfl) ic_1 ?_
    refine lv_goto (tgt := 16) hx hb (dc tbX1_goesUp_k 8 rfl) rfl ?_
    cases hf
    exact g_zret hx hb hr hlk hI rfl (dc tbX1_goesUp_k 10 rfl)
theorem cv_X1_goesUp : cvF RX1 yX1_goesUp cX1_goesUp 2 (some .boolean) 1 := ⟨q_t2_233, q_t2_234, q_t1_3, q_t2_235, by decide +kernel⟩
def mX1_sumOfLegs_b4 (k0 : Nat) (M : Mem) (ih4 : Int32 → Int32 → Int32 → Option Int32) (x1 : Int32) (x2 : Int32) (x3 : Int32) : Option Int32 := ite2 (x1 ≤ x3) (some x2) (ite2 ((9 : Int32) ≤ x3) (some x2) (chk (okb x3 9) (bnd ((x2 + (rd M (k0 + 1) (x3).toNatClampNeg))) (fun x2_23 => bnd (x3 + (1 : Int32)) (fun x3_24 => ih4 x1 x2_23 x3_24)))))
set_option maxHeartbeats 4000000 in
set_option maxRecDepth 100000 in
theorem tX1_sumOfLegs_b4 {p : Program} {l : Launch} {e : Env} {s : State} {m : MethodId} {args : Array Value} {below : List Frame} {meth : Method} {c : Code} {G : GT} {kd : Nat → Nat × Nat} {ad : Nat → Nat} (C : Cx p s m args meth c cX1_sumOfLegs 4 (some .int) RX1 G kd ad) {k0 : Nat} (hk0 : kPart kd k0) {M : Mem} {vo : Int32} {ih4 : Int32 → Int32 → Int32 → Option Int32} (hih4 : ∀ (x1 : Int32) (x2 : Int32) (x3 : Int32), ih4 x1 x2 x3 = some vo → At p l e (rmO 0 0 0) s m args below meth c 0 0 (MQ below (Qg G kd ad s.heap.size M (some (.int vo))) args s 0 0 (AS kd ad s.heap.size)) G kd ad 4 4 [(0, .ref (ad k0)), (1, .int x1), (2, .int x2), (3, .int x3)] [] M) : ∀ (x1 : Int32) (x2 : Int32) (x3 : Int32), mX1_sumOfLegs_b4 k0 M ih4 x1 x2 x3 = some vo → At p l e (rmO 0 0 0) s m args below meth c 0 0 (MQ below (Qg G kd ad s.heap.size M (some (.int vo))) args s 0 0 (AS kd ad s.heap.size)) G kd ad 4 4 [(0, .ref (ad k0)), (1, .int x1), (2, .int x2), (3, .int x3)] [] M := by
  intro x1 x2 x3 hf H locs ls hI hl
  obtain ⟨hx, hb, hml, hr, hown, hts, hlk, hK, hap, hsx⟩ := id C
  unfold mX1_sumOfLegs_b4 at hf
  refine lv_iload_n hx hb (dc tbX1_sumOfLegs_k 4 rfl) rfl (lv_at hl 3 rfl) ?_
  refine lv_iload_n hx hb (dc tbX1_sumOfLegs_k 5 rfl) rfl (lv_at hl 1 rfl) ?_
  refine lv_icmp_ge (tgt := 30) hx hb (dc tbX1_sumOfLegs_k 6 rfl) rfl (fun c1 => ?_) (fun c1 => ?_)
  · have hf := ite_t c1 hf
    refine lv_iload_n hx hb (dc tbX1_sumOfLegs_k 19 rfl) rfl (lv_at hl 2 rfl) ?_
    cases hf
    exact g_iret hx hb hr hlk hI (dc tbX1_sumOfLegs_k 20 rfl)
  · have hf := ite_f c1 hf
    refine lv_iload_n hx hb (dc tbX1_sumOfLegs_k 7 rfl) rfl (lv_at hl 3 rfl) ?_
    refine lv_bipush (v := 9) hx hb (dc tbX1_sumOfLegs_k 8 rfl) bp_9 ?_
    refine lv_icmp_ge (tgt := 30) hx hb (dc tbX1_sumOfLegs_k 9 rfl) rfl (fun c2 => ?_) (fun c2 => ?_)
    · have hf := ite_t c2 hf
      refine lv_iload_n hx hb (dc tbX1_sumOfLegs_k 19 rfl) rfl (lv_at hl 2 rfl) ?_
      cases hf
      exact g_iret hx hb hr hlk hI (dc tbX1_sumOfLegs_k 20 rfl)
    · have hf := ite_f c2 hf
      refine lv_iload_n hx hb (dc tbX1_sumOfLegs_k 10 rfl) rfl (lv_at hl 2 rfl) ?_
      refine lv_aload_n hx hb (dc tbX1_sumOfLegs_k 11 rfl) rfl (lv_at hl 0 rfl) ?_
      refine gg1_1 hx hb hts hown hK hI hk0.1 q_t1_105 (dc tbX1_sumOfLegs_k 12 rfl) ?_
      refine lv_iload_n hx hb (dc tbX1_sumOfLegs_k 13 rfl) rfl (lv_at hl 3 rfl) ?_
      obtain ⟨h3, hf⟩ := chk_s hf
      refine g_iald hx hb hK hI hk0.2.1 (okb_in h3) (dc tbX1_sumOfLegs_k 14 rfl) ?_
      refine lv_iadd hx hb (dc tbX1_sumOfLegs_k 15 rfl) ?_
      obtain ⟨x2_23, e4, hf⟩ := bnd_s hf
      refine lv_ei e4 ?_
      refine lv_istore_n (lv' := [(2, .int x2_23), (0, .ref (ad k0)), (1, .int x1), (3, .int x3)]) hx hb (dc tbX1_sumOfLegs_k 16 rfl) rfl hl (by decide) rfl (fun ls hl => ?_)
      obtain ⟨x3_24, e5, hf⟩ := bnd_s hf
      refine lv_iinc (v := x3_24) (lv' := [(3, .int x3_24), (2, .int x2_23), (0, .ref (ad k0)), (1, .int x1)]) hx hb (dc tbX1_sumOfLegs_k 17 rfl) hl (k := 3) rfl (ii_e e5 ic_1) (by decide) rfl (fun ls hl => ?_)
      refine lv_goto (tgt := 4) hx hb (dc tbX1_sumOfLegs_k 18 rfl) rfl ?_
      exact hih4 x1 x2_23 x3_24 hf _ _ _ hI (lv_sub hl [2, 3, 1, 0] rfl)
def mX1_sumOfLegs_l4 (k0 : Nat) (M : Mem) : Nat → Int32 → Int32 → Int32 → Option Int32
  | 0 => fun _ _ _ => none
  | n + 1 => mX1_sumOfLegs_b4 k0 M (mX1_sumOfLegs_l4 k0 M n)
theorem tX1_sumOfLegs_l4 {p : Program} {l : Launch} {e : Env} {s : State} {m : MethodId} {args : Array Value} {below : List Frame} {meth : Method} {c : Code} {G : GT} {kd : Nat → Nat × Nat} {ad : Nat → Nat} (C : Cx p s m args meth c cX1_sumOfLegs 4 (some .int) RX1 G kd ad) {k0 : Nat} (hk0 : kPart kd k0) {M : Mem} {vo : Int32}   : ∀ (fuel : Nat) (x1 : Int32) (x2 : Int32) (x3 : Int32), mX1_sumOfLegs_l4 k0 M fuel x1 x2 x3 = some vo → At p l e (rmO 0 0 0) s m args below meth c 0 0 (MQ below (Qg G kd ad s.heap.size M (some (.int vo))) args s 0 0 (AS kd ad s.heap.size)) G kd ad 4 4 [(0, .ref (ad k0)), (1, .int x1), (2, .int x2), (3, .int x3)] [] M := by
  intro fuel
  induction fuel with
  | zero => intro x1 x2 x3 hf; cases hf
  | succ n IH => exact tX1_sumOfLegs_b4 C hk0 IH
def mX1_sumOfLegs (k0 : Nat) (x1 : Int32) (M : Mem) : Option Int32 := mX1_sumOfLegs_l4 k0 M 5000 x1 (0 : Int32) (0 : Int32)
set_option maxHeartbeats 4000000 in
set_option maxRecDepth 100000 in
theorem tX1_sumOfLegs (l : Launch) {G : GT} {kd : Nat → Nat × Nat} {ad : Nat → Nat} {k0 : Nat} (hk0 : kPart kd k0) {x1 : Int32} {M : Mem} {vo : Int32} (hf : mX1_sumOfLegs k0 x1 M = some vo) (n : Nat) : Met l yX1_sumOfLegs (Cond.code yX1_sumOfLegs cX1_sumOfLegs 4 (some .int) :: WA) (rmO 0 0 0) (Pg G kd ad n [.ref (ad k0), .int x1] M) (Qg G kd ad n M (some (.int vo))) 0 0 (AS kd ad n) := by
  refine g_body (own := RX1) (by decide) rfl ?_ (Nat.le_of_ble_eq_true rfl)
  intro p e s m args below meth c C _ H locs ls hI hl
  obtain ⟨hx, hb, hml, hr, hown, hts, hlk, hK, hap, hsx⟩ := id C
  have hl : lv_has ls 4 [(0, .ref (ad k0)), (1, .int x1)] := hl
  unfold mX1_sumOfLegs at hf
  refine lv_iconst (v := 0) hx hb (dc tbX1_sumOfLegs_k 0 rfl) ic_0 ?_
  refine lv_istore_n (lv' := [(2, .int (0 : Int32)), (0, .ref (ad k0)), (1, .int x1)]) hx hb (dc tbX1_sumOfLegs_k 1 rfl) rfl hl (by decide) rfl (fun ls hl => ?_)
  refine lv_iconst (v := 0) hx hb (dc tbX1_sumOfLegs_k 2 rfl) ic_0 ?_
  refine lv_istore_n (lv' := [(3, .int (0 : Int32)), (2, .int (0 : Int32)), (0, .ref (ad k0)), (1, .int x1)]) hx hb (dc tbX1_sumOfLegs_k 3 rfl) rfl hl (by decide) rfl (fun ls hl => ?_)
  exact tX1_sumOfLegs_l4 C hk0 5000 x1 (0 : Int32) (0 : Int32) hf _ _ _ hI (lv_sub hl [2, 3, 1, 0] rfl)
theorem cv_X1_sumOfLegs : cvF RX1 yX1_sumOfLegs cX1_sumOfLegs 4 (some .int) 1 := ⟨q_t2_154, q_t2_155, q_t1_3, q_t2_156, by decide +kernel⟩
def mX1_isSameFromOtherEnd_b48 (k0 : Nat) (M : Mem) (ih48 : Int32 → Option Int32) (x1 : Int32) : Option Int32 := cap (mX1_bendCount k0 M) (fun r3 => ite2 (r3 ≤ x1) (some (1 : Int32)) (cap (mX1_goesUp k0 x1 M) (fun r7 => cap (mX1_bendCount k0 M) (fun r10 => cap (mX1_goesUp k0 ((r10 - (1 : Int32)) - x1) M) (fun r13 => ite2 (r7 = r13) (bnd (x1 + (1 : Int32)) (fun x1_78 => ih48 x1_78)) (some (0 : Int32)))))))
set_option maxHeartbeats 4000000 in
set_option maxRecDepth 100000 in
theorem tX1_isSameFromOtherEnd_b48 {p : Program} {l : Launch} {e : Env} {s : State} {m : MethodId} {args : Array Value} {below : List Frame} {meth : Method} {c : Code} {G : GT} {kd : Nat → Nat × Nat} {ad : Nat → Nat} (C : Cx p s m args meth c cX1_isSameFromOtherEnd 2 (some .boolean) RX1 G kd ad) {k0 : Nat} (hk0 : kPart kd k0) {M : Mem} {vo : Int32} {ih48 : Int32 → Option Int32} (hih48 : ∀ (x1 : Int32), ih48 x1 = some vo → At p l e (rmO 1 0 0) s m args below meth c 0 0 (MQ below (Qg G kd ad s.heap.size M (some (.int vo))) args s 0 0 (AS kd ad s.heap.size)) G kd ad 2 48 [(0, .ref (ad k0)), (1, .int x1)] [] M) : ∀ (x1 : Int32), mX1_isSameFromOtherEnd_b48 k0 M ih48 x1 = some vo → At p l e (rmO 1 0 0) s m args below meth c 0 0 (MQ below (Qg G kd ad s.heap.size M (some (.int vo))) args s 0 0 (AS kd ad s.heap.size)) G kd ad 2 48 [(0, .ref (ad k0)), (1, .int x1)] [] M := by
  intro x1 hf H locs ls hI hl
  obtain ⟨hx, hb, hml, hr, hown, hts, hlk, hK, hap, hsx⟩ := id C
  unfold mX1_isSameFromOtherEnd_b48 at hf
  refine lv_iload_n hx hb (dc tbX1_isSameFromOtherEnd_0_k 29 rfl) rfl (lv_at hl 1 rfl) ?_
  refine lv_aload_n hx hb (dc tbX1_isSameFromOtherEnd_0_k 30 rfl) rfl (lv_at hl 0 rfl) ?_
  obtain ⟨r3, q2, hf⟩ := cap_s hf
  refine g_callVi hx hb hml hown hts hK hap hsx hI (tX1_bendCount l hk0 q2 H.size) cv_X1_bendCount q_t2_194 rfl rfl ⟨Nat.le_of_ble_eq_true rfl, Nat.le_of_ble_eq_true rfl⟩ hk0.1 (by simp) rfl rfl rfl hl.1 rfl (Nat.le_of_ble_eq_true rfl) (dc tbX1_isSameFromOtherEnd_0_k 31 rfl) ⟨Nat.le_of_ble_eq_true rfl, Nat.le_of_ble_eq_true rfl⟩ (fun H locs hI => ?_)
  refine lv_icmp_ge (tgt := 84) hx hb (dc tbX1_isSameFromOtherEnd_0_k 32 rfl) rfl (fun c5 => ?_) (fun c5 => ?_)
  · have hf := ite_t c5 hf
    refine lv_iconst (v := 1) hx hb (dc tbX1_isSameFromOtherEnd_1_k 9 rfl) ic_1 ?_
    cases hf
    exact g_zret hx hb hr hlk hI rfl (dc tbX1_isSameFromOtherEnd_1_k 10 rfl)
  · have hf := ite_f c5 hf
    refine lv_aload_n hx hb (dc tbX1_isSameFromOtherEnd_0_k 33 rfl) rfl (lv_at hl 0 rfl) ?_
    refine lv_iload_n hx hb (dc tbX1_isSameFromOtherEnd_0_k 34 rfl) rfl (lv_at hl 1 rfl) ?_
    obtain ⟨r7, q6, hf⟩ := cap_s hf
    refine g_callVi hx hb hml hown hts hK hap hsx hI (tX1_goesUp l hk0 q6 H.size) cv_X1_goesUp q_t2_232 rfl rfl ⟨Nat.le_of_ble_eq_true rfl, Nat.le_of_ble_eq_true rfl⟩ hk0.1 (by simp) rfl rfl rfl hl.1 rfl (Nat.le_of_ble_eq_true rfl) (dc tbX1_isSameFromOtherEnd_0_k 35 rfl) ⟨Nat.le_of_ble_eq_true rfl, Nat.le_of_ble_eq_true rfl⟩ (fun H locs hI => ?_)
    refine lv_aload_n hx hb (dc tbX1_isSameFromOtherEnd_0_k 36 rfl) rfl (lv_at hl 0 rfl) ?_
    refine lv_aload_n hx hb (dc tbX1_isSameFromOtherEnd_0_k 37 rfl) rfl (lv_at hl 0 rfl) ?_
    obtain ⟨r10, q9, hf⟩ := cap_s hf
    refine g_callVi hx hb hml hown hts hK hap hsx hI (tX1_bendCount l hk0 q9 H.size) cv_X1_bendCount q_t2_194 rfl rfl ⟨Nat.le_of_ble_eq_true rfl, Nat.le_of_ble_eq_true rfl⟩ hk0.1 (by simp) rfl rfl rfl hl.1 rfl (Nat.le_of_ble_eq_true rfl) (dc tbX1_isSameFromOtherEnd_0_k 38 rfl) ⟨Nat.le_of_ble_eq_true rfl, Nat.le_of_ble_eq_true rfl⟩ (fun H locs hI => ?_)
    refine lv_iconst (v := 1) hx hb (dc tbX1_isSameFromOtherEnd_0_k 39 rfl) ic_1 ?_
    refine lv_isub hx hb (dc tbX1_isSameFromOtherEnd_1_k 0 rfl) ?_
    refine lv_iload_n hx hb (dc tbX1_isSameFromOtherEnd_1_k 1 rfl) rfl (lv_at hl 1 rfl) ?_
    refine lv_isub hx hb (dc tbX1_isSameFromOtherEnd_1_k 2 rfl) ?_
    obtain ⟨r13, q12, hf⟩ := cap_s hf
    refine g_callVi hx hb hml hown hts hK hap hsx hI (tX1_goesUp l hk0 q12 H.size) cv_X1_goesUp q_t2_232 rfl rfl ⟨Nat.le_of_ble_eq_true rfl, Nat.le_of_ble_eq_true rfl⟩ hk0.1 (by simp) rfl rfl rfl hl.1 rfl (Nat.le_of_ble_eq_true rfl) (dc tbX1_isSameFromOtherEnd_1_k 3 rfl) ⟨Nat.le_of_ble_eq_true rfl, Nat.le_of_ble_eq_true rfl⟩ (fun H locs hI => ?_)
    refine lv_icmp_eq (tgt := 78) hx hb (dc tbX1_isSameFromOtherEnd_1_k 4 rfl) rfl (fun c15 => ?_) (fun c15 => ?_)
    · have hf := ite_t c15 hf
      obtain ⟨x1_78, e16, hf⟩ := bnd_s hf
      refine lv_iinc (v := x1_78) (lv' := [(1, .int x1_78), (0, .ref (ad k0))]) hx hb (dc tbX1_isSameFromOtherEnd_1_k 7 rfl) hl (k := 1) rfl (ii_e e16 ic_1) (by decide) rfl (fun ls hl => ?_)
      refine lv_goto (tgt := 48) hx hb (dc tbX1_isSameFromOtherEnd_1_k 8 rfl) rfl ?_
      exact hih48 x1_78 hf _ _ _ hI (lv_sub hl [1, 0] rfl)
    · have hf := ite_f c15 hf
      refine lv_iconst (v := 0) hx hb (dc tbX1_isSameFromOtherEnd_1_k 5 rfl) ic_0 ?_
      cases hf
      exact g_zret hx hb hr hlk hI rfl (dc tbX1_isSameFromOtherEnd_1_k 6 rfl)
def mX1_isSameFromOtherEnd_l48 (k0 : Nat) (M : Mem) : Nat → Int32 → Option Int32
  | 0 => fun _ => none
  | n + 1 => mX1_isSameFromOtherEnd_b48 k0 M (mX1_isSameFromOtherEnd_l48 k0 M n)
theorem tX1_isSameFromOtherEnd_l48 {p : Program} {l : Launch} {e : Env} {s : State} {m : MethodId} {args : Array Value} {below : List Frame} {meth : Method} {c : Code} {G : GT} {kd : Nat → Nat × Nat} {ad : Nat → Nat} (C : Cx p s m args meth c cX1_isSameFromOtherEnd 2 (some .boolean) RX1 G kd ad) {k0 : Nat} (hk0 : kPart kd k0) {M : Mem} {vo : Int32}   : ∀ (fuel : Nat) (x1 : Int32), mX1_isSameFromOtherEnd_l48 k0 M fuel x1 = some vo → At p l e (rmO 1 0 0) s m args below meth c 0 0 (MQ below (Qg G kd ad s.heap.size M (some (.int vo))) args s 0 0 (AS kd ad s.heap.size)) G kd ad 2 48 [(0, .ref (ad k0)), (1, .int x1)] [] M := by
  intro fuel
  induction fuel with
  | zero => intro x1 hf; cases hf
  | succ n IH => exact tX1_isSameFromOtherEnd_b48 C hk0 IH
def mX1_isSameFromOtherEnd_b46 (k0 : Nat) (M : Mem) : Option Int32 := mX1_isSameFromOtherEnd_l48 k0 M 5000 (0 : Int32)
set_option maxHeartbeats 4000000 in
set_option maxRecDepth 100000 in
theorem tX1_isSameFromOtherEnd_b46 {p : Program} {l : Launch} {e : Env} {s : State} {m : MethodId} {args : Array Value} {below : List Frame} {meth : Method} {c : Code} {G : GT} {kd : Nat → Nat × Nat} {ad : Nat → Nat} (C : Cx p s m args meth c cX1_isSameFromOtherEnd 2 (some .boolean) RX1 G kd ad) {k0 : Nat} (hk0 : kPart kd k0) {M : Mem} {vo : Int32}   : mX1_isSameFromOtherEnd_b46 k0 M = some vo → At p l e (rmO 1 0 0) s m args below meth c 0 0 (MQ below (Qg G kd ad s.heap.size M (some (.int vo))) args s 0 0 (AS kd ad s.heap.size)) G kd ad 2 46 [(0, .ref (ad k0))] [] M := by
  intro hf H locs ls hI hl
  obtain ⟨hx, hb, hml, hr, hown, hts, hlk, hK, hap, hsx⟩ := id C
  unfold mX1_isSameFromOtherEnd_b46 at hf
  refine lv_iconst (v := 0) hx hb (dc tbX1_isSameFromOtherEnd_0_k 27 rfl) ic_0 ?_
  refine lv_istore_n (lv' := [(1, .int (0 : Int32)), (0, .ref (ad k0))]) hx hb (dc tbX1_isSameFromOtherEnd_0_k 28 rfl) rfl hl (by decide) rfl (fun ls hl => ?_)
  exact tX1_isSameFromOtherEnd_l48 C hk0 5000 (0 : Int32) hf _ _ _ hI (lv_sub hl [1, 0] rfl)
def mX1_isSameFromOtherEnd_b2 (k0 : Nat) (M : Mem) (ih2 : Int32 → Option Int32) (x1 : Int32) : Option Int32 := ite2 ((rd M k0 0) ≤ x1) (mX1_isSameFromOtherEnd_b46 k0 M) (ite2 ((9 : Int32) ≤ x1) (mX1_isSameFromOtherEnd_b46 k0 M) (chk (okb x1 9) (chk (okb (((rd M k0 0) - (1 : Int32)) - x1) 9) (ite2 ((rd M (k0 + 1) (x1).toNatClampNeg) = (rd M (k0 + 1) ((((rd M k0 0) - (1 : Int32)) - x1)).toNatClampNeg)) (bnd (x1 + (1 : Int32)) (fun x1_40 => ih2 x1_40)) (some (0 : Int32))))))
set_option maxHeartbeats 4000000 in
set_option maxRecDepth 100000 in
theorem tX1_isSameFromOtherEnd_b2 {p : Program} {l : Launch} {e : Env} {s : State} {m : MethodId} {args : Array Value} {below : List Frame} {meth : Method} {c : Code} {G : GT} {kd : Nat → Nat × Nat} {ad : Nat → Nat} (C : Cx p s m args meth c cX1_isSameFromOtherEnd 2 (some .boolean) RX1 G kd ad) {k0 : Nat} (hk0 : kPart kd k0) {M : Mem} {vo : Int32} {ih2 : Int32 → Option Int32} (hih2 : ∀ (x1 : Int32), ih2 x1 = some vo → At p l e (rmO 1 0 0) s m args below meth c 0 0 (MQ below (Qg G kd ad s.heap.size M (some (.int vo))) args s 0 0 (AS kd ad s.heap.size)) G kd ad 2 2 [(0, .ref (ad k0)), (1, .int x1)] [] M) : ∀ (x1 : Int32), mX1_isSameFromOtherEnd_b2 k0 M ih2 x1 = some vo → At p l e (rmO 1 0 0) s m args below meth c 0 0 (MQ below (Qg G kd ad s.heap.size M (some (.int vo))) args s 0 0 (AS kd ad s.heap.size)) G kd ad 2 2 [(0, .ref (ad k0)), (1, .int x1)] [] M := by
  intro x1 hf H locs ls hI hl
  obtain ⟨hx, hb, hml, hr, hown, hts, hlk, hK, hap, hsx⟩ := id C
  unfold mX1_isSameFromOtherEnd_b2 at hf
  refine lv_iload_n hx hb (dc tbX1_isSameFromOtherEnd_0_k 2 rfl) rfl (lv_at hl 1 rfl) ?_
  refine lv_aload_n hx hb (dc tbX1_isSameFromOtherEnd_0_k 3 rfl) rfl (lv_at hl 0 rfl) ?_
  refine gg1_0 hx hb hts hown hK hI hk0.1 q_t1_101 (dc tbX1_isSameFromOtherEnd_0_k 4 rfl) ?_
  refine lv_icmp_ge (tgt := 46) hx hb (dc tbX1_isSameFromOtherEnd_0_k 5 rfl) rfl (fun c1 => ?_) (fun c1 => ?_)
  · have hf := ite_t c1 hf
    exact tX1_isSameFromOtherEnd_b46 C hk0 hf _ _ _ hI (lv_sub hl [0] rfl)
  · have hf := ite_f c1 hf
    refine lv_iload_n hx hb (dc tbX1_isSameFromOtherEnd_0_k 6 rfl) rfl (lv_at hl 1 rfl) ?_
    refine lv_bipush (v := 9) hx hb (dc tbX1_isSameFromOtherEnd_0_k 7 rfl) bp_9 ?_
    refine lv_icmp_ge (tgt := 46) hx hb (dc tbX1_isSameFromOtherEnd_0_k 8 rfl) rfl (fun c17 => ?_) (fun c17 => ?_)
    · have hf := ite_t c17 hf
      exact tX1_isSameFromOtherEnd_b46 C hk0 hf _ _ _ hI (lv_sub hl [0] rfl)
    · have hf := ite_f c17 hf
      refine lv_aload_n hx hb (dc tbX1_isSameFromOtherEnd_0_k 9 rfl) rfl (lv_at hl 0 rfl) ?_
      refine gg1_1 hx hb hts hown hK hI hk0.1 q_t1_105 (dc tbX1_isSameFromOtherEnd_0_k 10 rfl) ?_
      refine lv_iload_n hx hb (dc tbX1_isSameFromOtherEnd_0_k 11 rfl) rfl (lv_at hl 1 rfl) ?_
      obtain ⟨h18, hf⟩ := chk_s hf
      refine g_iald hx hb hK hI hk0.2.1 (okb_in h18) (dc tbX1_isSameFromOtherEnd_0_k 12 rfl) ?_
      refine lv_aload_n hx hb (dc tbX1_isSameFromOtherEnd_0_k 13 rfl) rfl (lv_at hl 0 rfl) ?_
      refine gg1_1 hx hb hts hown hK hI hk0.1 q_t1_105 (dc tbX1_isSameFromOtherEnd_0_k 14 rfl) ?_
      refine lv_aload_n hx hb (dc tbX1_isSameFromOtherEnd_0_k 15 rfl) rfl (lv_at hl 0 rfl) ?_
      refine gg1_0 hx hb hts hown hK hI hk0.1 q_t1_101 (dc tbX1_isSameFromOtherEnd_0_k 16 rfl) ?_
      refine lv_iconst (v := 1) hx hb (dc tbX1_isSameFromOtherEnd_0_k 17 rfl) ic_1 ?_
      refine lv_isub hx hb (dc tbX1_isSameFromOtherEnd_0_k 18 rfl) ?_
      refine lv_iload_n hx hb (dc tbX1_isSameFromOtherEnd_0_k 19 rfl) rfl (lv_at hl 1 rfl) ?_
      refine lv_isub hx hb (dc tbX1_isSameFromOtherEnd_0_k 20 rfl) ?_
      obtain ⟨h19, hf⟩ := chk_s hf
      refine g_iald hx hb hK hI hk0.2.1 (okb_in h19) (dc tbX1_isSameFromOtherEnd_0_k 21 rfl) ?_
      refine lv_icmp_eq (tgt := 40) hx hb (dc tbX1_isSameFromOtherEnd_0_k 22 rfl) rfl (fun c20 => ?_) (fun c20 => ?_)
      · have hf := ite_t c20 hf
        obtain ⟨x1_40, e21, hf⟩ := bnd_s hf
        refine lv_iinc (v := x1_40) (lv' := [(1, .int x1_40), (0, .ref (ad k0))]) hx hb (dc tbX1_isSameFromOtherEnd_0_k 25 rfl) hl (k := 1) rfl (ii_e e21 ic_1) (by decide) rfl (fun ls hl => ?_)
        refine lv_goto (tgt := 2) hx hb (dc tbX1_isSameFromOtherEnd_0_k 26 rfl) rfl ?_
        exact hih2 x1_40 hf _ _ _ hI (lv_sub hl [1, 0] rfl)
      · have hf := ite_f c20 hf
        refine lv_iconst (v := 0) hx hb (dc tbX1_isSameFromOtherEnd_0_k 23 rfl) ic_0 ?_
        cases hf
        exact g_zret hx hb hr hlk hI rfl (dc tbX1_isSameFromOtherEnd_0_k 24 rfl)
def mX1_isSameFromOtherEnd_l2 (k0 : Nat) (M : Mem) : Nat → Int32 → Option Int32
  | 0 => fun _ => none
  | n + 1 => mX1_isSameFromOtherEnd_b2 k0 M (mX1_isSameFromOtherEnd_l2 k0 M n)
theorem tX1_isSameFromOtherEnd_l2 {p : Program} {l : Launch} {e : Env} {s : State} {m : MethodId} {args : Array Value} {below : List Frame} {meth : Method} {c : Code} {G : GT} {kd : Nat → Nat × Nat} {ad : Nat → Nat} (C : Cx p s m args meth c cX1_isSameFromOtherEnd 2 (some .boolean) RX1 G kd ad) {k0 : Nat} (hk0 : kPart kd k0) {M : Mem} {vo : Int32}   : ∀ (fuel : Nat) (x1 : Int32), mX1_isSameFromOtherEnd_l2 k0 M fuel x1 = some vo → At p l e (rmO 1 0 0) s m args below meth c 0 0 (MQ below (Qg G kd ad s.heap.size M (some (.int vo))) args s 0 0 (AS kd ad s.heap.size)) G kd ad 2 2 [(0, .ref (ad k0)), (1, .int x1)] [] M := by
  intro fuel
  induction fuel with
  | zero => intro x1 hf; cases hf
  | succ n IH => exact tX1_isSameFromOtherEnd_b2 C hk0 IH
def mX1_isSameFromOtherEnd (k0 : Nat) (M : Mem) : Option Int32 := mX1_isSameFromOtherEnd_l2 k0 M 5000 (0 : Int32)
set_option maxHeartbeats 4000000 in
set_option maxRecDepth 100000 in
theorem tX1_isSameFromOtherEnd (l : Launch) {G : GT} {kd : Nat → Nat × Nat} {ad : Nat → Nat} {k0 : Nat} (hk0 : kPart kd k0) {M : Mem} {vo : Int32} (hf : mX1_isSameFromOtherEnd k0 M = some vo) (n : Nat) : Met l yX1_isSameFromOtherEnd (Cond.code yX1_isSameFromOtherEnd cX1_isSameFromOtherEnd 2 (some .boolean) :: WA) (rmO 1 0 0) (Pg G kd ad n [.ref (ad k0)] M) (Qg G kd ad n M (some (.int vo))) 0 0 (AS kd ad n) := by
  refine g_body (own := RX1) (by decide) rfl ?_ (Nat.le_of_ble_eq_true rfl)
  intro p e s m args below meth c C _ H locs ls hI hl
  obtain ⟨hx, hb, hml, hr, hown, hts, hlk, hK, hap, hsx⟩ := id C
  have hl : lv_has ls 2 [(0, .ref (ad k0))] := hl
  unfold mX1_isSameFromOtherEnd at hf
  refine lv_iconst (v := 0) hx hb (dc tbX1_isSameFromOtherEnd_0_k 0 rfl) ic_0 ?_
  refine lv_istore_n (lv' := [(1, .int (0 : Int32)), (0, .ref (ad k0))]) hx hb (dc tbX1_isSameFromOtherEnd_0_k 1 rfl) rfl hl (by decide) rfl (fun ls hl => ?_)
  exact tX1_isSameFromOtherEnd_l2 C hk0 5000 (0 : Int32) hf _ _ _ hI (lv_sub hl [1, 0] rfl)
theorem cv_X1_isSameFromOtherEnd : cvF RX1 yX1_isSameFromOtherEnd cX1_isSameFromOtherEnd 2 (some .boolean) 0 := ⟨q_t2_229, q_t2_230, q_t1_3, q_t2_231, by decide +kernel⟩
def mX1_deductionOfBend (k0 : Nat) (M : Mem) : Option UInt64 := chk (n64b (FP.dmul (4611686018427387904 : UInt64) (FP.i2d ((rd M k0 4) + (rd M k0 3))))) (chk (n64b (FP.ddiv (FP.i2d (rd M k0 5)) (4636737291354636288 : UInt64))) (chk (n64b (FP.dmul (FP.ddiv (FP.i2d (rd M k0 5)) (4636737291354636288 : UInt64)) (FP.i2d (rd M k0 3)))) (chk (n64b (FP.dadd (FP.i2d (rd M k0 4)) (FP.dmul (FP.ddiv (FP.i2d (rd M k0 5)) (4636737291354636288 : UInt64)) (FP.i2d (rd M k0 3))))) (chk (n64b (FP.dmul (4609753073467320487 : UInt64) (FP.dadd (FP.i2d (rd M k0 4)) (FP.dmul (FP.ddiv (FP.i2d (rd M k0 5)) (4636737291354636288 : UInt64)) (FP.i2d (rd M k0 3)))))) (chk (n64b (FP.dsub (FP.dmul (4611686018427387904 : UInt64) (FP.i2d ((rd M k0 4) + (rd M k0 3)))) (FP.dmul (4609753073467320487 : UInt64) (FP.dadd (FP.i2d (rd M k0 4)) (FP.dmul (FP.ddiv (FP.i2d (rd M k0 5)) (4636737291354636288 : UInt64)) (FP.i2d (rd M k0 3))))))) (some (FP.dsub (FP.dmul (4611686018427387904 : UInt64) (FP.i2d ((rd M k0 4) + (rd M k0 3)))) (FP.dmul (4609753073467320487 : UInt64) (FP.dadd (FP.i2d (rd M k0 4)) (FP.dmul (FP.ddiv (FP.i2d (rd M k0 5)) (4636737291354636288 : UInt64)) (FP.i2d (rd M k0 3))))))))))))
set_option maxHeartbeats 4000000 in
set_option maxRecDepth 100000 in
theorem tX1_deductionOfBend (l : Launch) {G : GT} {kd : Nat → Nat × Nat} {ad : Nat → Nat} {k0 : Nat} (hk0 : kPart kd k0) {M : Mem} {vo : UInt64} (hf : mX1_deductionOfBend k0 M = some vo) (n : Nat) : Met l yX1_deductionOfBend (Cond.code yX1_deductionOfBend cX1_deductionOfBend 1 (some .double) :: WA) (rmO 0 0 0) (Pg G kd ad n [.ref (ad k0)] M) (Qg G kd ad n M (some (.double vo))) 0 0 (AS kd ad n) := by
  refine g_body (own := RX1) (by decide) rfl ?_ (Nat.le_of_ble_eq_true rfl)
  intro p e s m args below meth c C _ H locs ls hI hl
  obtain ⟨hx, hb, hml, hr, hown, hts, hlk, hK, hap, hsx⟩ := id C
  have hl : lv_has ls 1 [(0, .ref (ad k0))] := hl
  unfold mX1_deductionOfBend at hf
  refine lv_ldc2d hx hb hown (hts _ q_t2_146) (dc tbX1_deductionOfBend_k 0 rfl) ?_
  refine lv_aload_n hx hb (dc tbX1_deductionOfBend_k 1 rfl) rfl (lv_at hl 0 rfl) ?_
  refine gg1_4 hx hb hts hown hK hI hk0.1 q_t1_113 (dc tbX1_deductionOfBend_k 2 rfl) ?_
  refine lv_aload_n hx hb (dc tbX1_deductionOfBend_k 3 rfl) rfl (lv_at hl 0 rfl) ?_
  refine gg1_3 hx hb hts hown hK hI hk0.1 q_t1_111 (dc tbX1_deductionOfBend_k 4 rfl) ?_
  refine lv_iadd hx hb (dc tbX1_deductionOfBend_k 5 rfl) ?_
  refine lv_i2d hx hb (dc tbX1_deductionOfBend_k 6 rfl) ?_
  obtain ⟨h1, hf⟩ := chk_s hf
  refine lv_dmul hx hb (dc tbX1_deductionOfBend_k 7 rfl) (n64_b h1) ?_
  refine lv_ldc2d hx hb hown (hts _ q_t2_147) (dc tbX1_deductionOfBend_k 8 rfl) ?_
  refine lv_aload_n hx hb (dc tbX1_deductionOfBend_k 9 rfl) rfl (lv_at hl 0 rfl) ?_
  refine gg1_4 hx hb hts hown hK hI hk0.1 q_t1_113 (dc tbX1_deductionOfBend_k 10 rfl) ?_
  refine lv_i2d hx hb (dc tbX1_deductionOfBend_k 11 rfl) ?_
  refine lv_aload_n hx hb (dc tbX1_deductionOfBend_k 12 rfl) rfl (lv_at hl 0 rfl) ?_
  refine gg1_5 hx hb hts hown hK hI hk0.1 q_t1_114 (dc tbX1_deductionOfBend_k 13 rfl) ?_
  refine lv_i2d hx hb (dc tbX1_deductionOfBend_k 14 rfl) ?_
  refine lv_ldc2d hx hb hown (hts _ q_t2_148) (dc tbX1_deductionOfBend_k 15 rfl) ?_
  obtain ⟨h2, hf⟩ := chk_s hf
  refine lv_ddiv hx hb (dc tbX1_deductionOfBend_k 16 rfl) (n64_b h2) ?_
  refine lv_aload_n hx hb (dc tbX1_deductionOfBend_k 17 rfl) rfl (lv_at hl 0 rfl) ?_
  refine gg1_3 hx hb hts hown hK hI hk0.1 q_t1_111 (dc tbX1_deductionOfBend_k 18 rfl) ?_
  refine lv_i2d hx hb (dc tbX1_deductionOfBend_k 19 rfl) ?_
  obtain ⟨h3, hf⟩ := chk_s hf
  refine lv_dmul hx hb (dc tbX1_deductionOfBend_k 20 rfl) (n64_b h3) ?_
  obtain ⟨h4, hf⟩ := chk_s hf
  refine lv_dadd hx hb (dc tbX1_deductionOfBend_k 21 rfl) (n64_b h4) ?_
  obtain ⟨h5, hf⟩ := chk_s hf
  refine lv_dmul hx hb (dc tbX1_deductionOfBend_k 22 rfl) (n64_b h5) ?_
  obtain ⟨h6, hf⟩ := chk_s hf
  refine lv_dsub hx hb (dc tbX1_deductionOfBend_k 23 rfl) (n64_b h6) ?_
  cases hf
  exact g_dret hx hb hr hlk hI (dc tbX1_deductionOfBend_k 24 rfl)
theorem cv_X1_deductionOfBend : cvF RX1 yX1_deductionOfBend cX1_deductionOfBend 1 (some .double) 0 := ⟨q_t2_143, q_t2_144, q_t1_3, q_t2_145, by decide +kernel⟩
def mX1_ratioOfSheet (k0 : Nat) (M : Mem) : Option UInt64 := ite2 ((rd M k0 3) ≤ 0) (some FP.dconst0) (chk (n64b (FP.dmul (4621819117588971520 : UInt64) (FP.i2d (rd M k0 4)))) (chk (n64b (FP.ddiv (FP.dmul (4621819117588971520 : UInt64) (FP.i2d (rd M k0 4))) (FP.i2d (rd M k0 3)))) (some (FP.ddiv (FP.dmul (4621819117588971520 : UInt64) (FP.i2d (rd M k0 4))) (FP.i2d (rd M k0 3))))))
set_option maxHeartbeats 4000000 in
set_option maxRecDepth 100000 in
theorem tX1_ratioOfSheet (l : Launch) {G : GT} {kd : Nat → Nat × Nat} {ad : Nat → Nat} {k0 : Nat} (hk0 : kPart kd k0) {M : Mem} {vo : UInt64} (hf : mX1_ratioOfSheet k0 M = some vo) (n : Nat) : Met l yX1_ratioOfSheet (Cond.code yX1_ratioOfSheet cX1_ratioOfSheet 1 (some .double) :: WA) (rmO 0 0 0) (Pg G kd ad n [.ref (ad k0)] M) (Qg G kd ad n M (some (.double vo))) 0 0 (AS kd ad n) := by
  refine g_body (own := RX1) (by decide) rfl ?_ (Nat.le_of_ble_eq_true rfl)
  intro p e s m args below meth c C _ H locs ls hI hl
  obtain ⟨hx, hb, hml, hr, hown, hts, hlk, hK, hap, hsx⟩ := id C
  have hl : lv_has ls 1 [(0, .ref (ad k0))] := hl
  unfold mX1_ratioOfSheet at hf
  refine lv_aload_n hx hb (dc tbX1_ratioOfSheet_k 0 rfl) rfl (lv_at hl 0 rfl) ?_
  refine gg1_3 hx hb hts hown hK hI hk0.1 q_t1_111 (dc tbX1_ratioOfSheet_k 1 rfl) ?_
  refine lv_if_le (tgt := 25) hx hb (dc tbX1_ratioOfSheet_k 2 rfl) rfl (fun c1 => ?_) (fun c1 => ?_)
  · have hf := ite_t c1 hf
    refine lv_dconst0 hx hb (dc tbX1_ratioOfSheet_k 13 rfl) ?_
    cases hf
    exact g_dret hx hb hr hlk hI (dc tbX1_ratioOfSheet_k 14 rfl)
  · have hf := ite_f c1 hf
    refine lv_ldc2d hx hb hown (hts _ q_t2_165) (dc tbX1_ratioOfSheet_k 3 rfl) ?_
    refine lv_aload_n hx hb (dc tbX1_ratioOfSheet_k 4 rfl) rfl (lv_at hl 0 rfl) ?_
    refine gg1_4 hx hb hts hown hK hI hk0.1 q_t1_113 (dc tbX1_ratioOfSheet_k 5 rfl) ?_
    refine lv_i2d hx hb (dc tbX1_ratioOfSheet_k 6 rfl) ?_
    obtain ⟨h2, hf⟩ := chk_s hf
    refine lv_dmul hx hb (dc tbX1_ratioOfSheet_k 7 rfl) (n64_b h2) ?_
    refine lv_aload_n hx hb (dc tbX1_ratioOfSheet_k 8 rfl) rfl (lv_at hl 0 rfl) ?_
    refine gg1_3 hx hb hts hown hK hI hk0.1 q_t1_111 (dc tbX1_ratioOfSheet_k 9 rfl) ?_
    refine lv_i2d hx hb (dc tbX1_ratioOfSheet_k 10 rfl) ?_
    obtain ⟨h3, hf⟩ := chk_s hf
    refine lv_ddiv hx hb (dc tbX1_ratioOfSheet_k 11 rfl) (n64_b h3) ?_
    refine lv_goto (tgt := 26) hx hb (dc tbX1_ratioOfSheet_k 12 rfl) rfl ?_
    cases hf
    exact g_dret hx hb hr hlk hI (dc tbX1_ratioOfSheet_k 14 rfl)
theorem cv_X1_ratioOfSheet : cvF RX1 yX1_ratioOfSheet cX1_ratioOfSheet 1 (some .double) 0 := ⟨q_t2_162, q_t2_163, q_t1_3, q_t2_164, by decide +kernel⟩
def mX1_springBackBetween (k0 : Nat) (x1 : Int32) (x2 : Int32) (x3 : UInt64) (M : Mem) : Option UInt64 := chk (okb x2 8) (chk (okb x1 8) (bnd ((FP.i2d ((rd M (k0 + 3) (x2).toNatClampNeg) - (rd M (k0 + 3) (x1).toNatClampNeg)))) (fun x5_14 => ite2 (0 < (Op.cmpValue (FP.dcmp x5_14 FP.dconst0) CmpOp.g)) (chk (okb x2 8) (chk (okb x1 8) (bnd ((FP.i2d ((rd M (k0 + 4) (x2).toNatClampNeg) - (rd M (k0 + 4) (x1).toNatClampNeg)))) (fun x7_45 => chk (okb x1 8) (chk (okb x1 8) (chk (n64b (FP.dsub x3 (FP.i2d (rd M (k0 + 3) (x1).toNatClampNeg)))) (chk (n64b (FP.dmul x7_45 (FP.dsub x3 (FP.i2d (rd M (k0 + 3) (x1).toNatClampNeg))))) (chk (n64b (FP.ddiv (FP.dmul x7_45 (FP.dsub x3 (FP.i2d (rd M (k0 + 3) (x1).toNatClampNeg)))) x5_14)) (chk (n64b (FP.dadd (FP.i2d (rd M (k0 + 4) (x1).toNatClampNeg)) (FP.ddiv (FP.dmul x7_45 (FP.dsub x3 (FP.i2d (rd M (k0 + 3) (x1).toNatClampNeg)))) x5_14))) (some (FP.dadd (FP.i2d (rd M (k0 + 4) (x1).toNatClampNeg)) (FP.ddiv (FP.dmul x7_45 (FP.dsub x3 (FP.i2d (rd M (k0 + 3) (x1).toNatClampNeg)))) x5_14)))))))))))) (chk (okb x1 8) (some (FP.i2d (rd M (k0 + 4) (x1).toNatClampNeg)))))))
set_option maxHeartbeats 4000000 in
set_option maxRecDepth 100000 in
theorem tX1_springBackBetween (l : Launch) {G : GT} {kd : Nat → Nat × Nat} {ad : Nat → Nat} {k0 : Nat} (hk0 : kPart kd k0) {x1 : Int32} {x2 : Int32} {x3 : UInt64} {M : Mem} {vo : UInt64} (hf : mX1_springBackBetween k0 x1 x2 x3 M = some vo) (n : Nat) : Met l yX1_springBackBetween (Cond.code yX1_springBackBetween cX1_springBackBetween 9 (some .double) :: WA) (rmO 0 0 0) (Pg G kd ad n [.ref (ad k0), .int x1, .int x2, .double x3] M) (Qg G kd ad n M (some (.double vo))) 0 0 (AS kd ad n) := by
  refine g_body (own := RX1) (by decide) rfl ?_ (Nat.le_of_ble_eq_true rfl)
  intro p e s m args below meth c C _ H locs ls hI hl
  obtain ⟨hx, hb, hml, hr, hown, hts, hlk, hK, hap, hsx⟩ := id C
  have hl : lv_has ls 9 [(0, .ref (ad k0)), (1, .int x1), (2, .int x2), (3, .double x3)] := hl
  unfold mX1_springBackBetween at hf
  refine lv_aload_n hx hb (dc tbX1_springBackBetween_0_k 0 rfl) rfl (lv_at hl 0 rfl) ?_
  refine gg1_11 hx hb hts hown hK hI hk0.1 q_t1_124 (dc tbX1_springBackBetween_0_k 1 rfl) ?_
  refine lv_iload_n hx hb (dc tbX1_springBackBetween_0_k 2 rfl) rfl (lv_at hl 2 rfl) ?_
  obtain ⟨h1, hf⟩ := chk_s hf
  refine g_iald hx hb hK hI hk0.2.2.2.1 (okb_in h1) (dc tbX1_springBackBetween_0_k 3 rfl) ?_
  refine lv_aload_n hx hb (dc tbX1_springBackBetween_0_k 4 rfl) rfl (lv_at hl 0 rfl) ?_
  refine gg1_11 hx hb hts hown hK hI hk0.1 q_t1_124 (dc tbX1_springBackBetween_0_k 5 rfl) ?_
  refine lv_iload_n hx hb (dc tbX1_springBackBetween_0_k 6 rfl) rfl (lv_at hl 1 rfl) ?_
  obtain ⟨h2, hf⟩ := chk_s hf
  refine g_iald hx hb hK hI hk0.2.2.2.1 (okb_in h2) (dc tbX1_springBackBetween_0_k 7 rfl) ?_
  refine lv_isub hx hb (dc tbX1_springBackBetween_0_k 8 rfl) ?_
  refine lv_i2d hx hb (dc tbX1_springBackBetween_0_k 9 rfl) ?_
  obtain ⟨x5_14, e3, hf⟩ := bnd_s hf
  refine lv_ed e3 ?_
  refine lv_dstore (lv' := [(5, .double x5_14), (0, .ref (ad k0)), (1, .int x1), (2, .int x2), (3, .double x3)]) hx hb (dc tbX1_springBackBetween_0_k 10 rfl) hl (by decide) rfl (fun ls hl => ?_)
  refine lv_dload hx hb (dc tbX1_springBackBetween_0_k 11 rfl) (lv_at hl 0 rfl) ?_
  refine lv_dconst0 hx hb (dc tbX1_springBackBetween_0_k 12 rfl) ?_
  refine lv_dcmp hx hb (dc tbX1_springBackBetween_0_k 13 rfl) ?_
  refine lv_if_gt (tgt := 31) hx hb (dc tbX1_springBackBetween_0_k 14 rfl) rfl (fun c4 => ?_) (fun c4 => ?_)
  · have hf := ite_t c4 hf
    refine lv_aload_n hx hb (dc tbX1_springBackBetween_0_k 21 rfl) rfl (lv_at hl 1 rfl) ?_
    refine gg1_12 hx hb hts hown hK hI hk0.1 q_t1_125 (dc tbX1_springBackBetween_0_k 22 rfl) ?_
    refine lv_iload_n hx hb (dc tbX1_springBackBetween_0_k 23 rfl) rfl (lv_at hl 3 rfl) ?_
    obtain ⟨h5, hf⟩ := chk_s hf
    refine g_iald hx hb hK hI hk0.2.2.2.2.1 (okb_in h5) (dc tbX1_springBackBetween_0_k 24 rfl) ?_
    refine lv_aload_n hx hb (dc tbX1_springBackBetween_0_k 25 rfl) rfl (lv_at hl 1 rfl) ?_
    refine gg1_12 hx hb hts hown hK hI hk0.1 q_t1_125 (dc tbX1_springBackBetween_0_k 26 rfl) ?_
    refine lv_iload_n hx hb (dc tbX1_springBackBetween_0_k 27 rfl) rfl (lv_at hl 2 rfl) ?_
    obtain ⟨h6, hf⟩ := chk_s hf
    refine g_iald hx hb hK hI hk0.2.2.2.2.1 (okb_in h6) (dc tbX1_springBackBetween_0_k 28 rfl) ?_
    refine lv_isub hx hb (dc tbX1_springBackBetween_0_k 29 rfl) ?_
    refine lv_i2d hx hb (dc tbX1_springBackBetween_0_k 30 rfl) ?_
    obtain ⟨x7_45, e7, hf⟩ := bnd_s hf
    refine lv_ed e7 ?_
    refine lv_dstore (lv' := [(7, .double x7_45), (5, .double x5_14), (0, .ref (ad k0)), (1, .int x1), (2, .int x2), (3, .double x3)]) hx hb (dc tbX1_springBackBetween_0_k 31 rfl) hl (by decide) rfl (fun ls hl => ?_)
    refine lv_aload_n hx hb (dc tbX1_springBackBetween_0_k 32 rfl) rfl (lv_at hl 2 rfl) ?_
    refine gg1_12 hx hb hts hown hK hI hk0.1 q_t1_125 (dc tbX1_springBackBetween_0_k 33 rfl) ?_
    refine lv_iload_n hx hb (dc tbX1_springBackBetween_0_k 34 rfl) rfl (lv_at hl 3 rfl) ?_
    obtain ⟨h8, hf⟩ := chk_s hf
    refine g_iald hx hb hK hI hk0.2.2.2.2.1 (okb_in h8) (dc tbX1_springBackBetween_0_k 35 rfl) ?_
    refine lv_i2d hx hb (dc tbX1_springBackBetween_0_k 36 rfl) ?_
    refine lv_dload hx hb (dc tbX1_springBackBetween_0_k 37 rfl) (lv_at hl 0 rfl) ?_
    refine lv_dload_n hx hb (dc tbX1_springBackBetween_0_k 38 rfl) rfl (lv_at hl 5 rfl) ?_
    refine lv_aload_n hx hb (dc tbX1_springBackBetween_0_k 39 rfl) rfl (lv_at hl 2 rfl) ?_
    refine gg1_11 hx hb hts hown hK hI hk0.1 q_t1_124 (dc tbX1_springBackBetween_1_k 0 rfl) ?_
    refine lv_iload_n hx hb (dc tbX1_springBackBetween_1_k 1 rfl) rfl (lv_at hl 3 rfl) ?_
    obtain ⟨h9, hf⟩ := chk_s hf
    refine g_iald hx hb hK hI hk0.2.2.2.1 (okb_in h9) (dc tbX1_springBackBetween_1_k 2 rfl) ?_
    refine lv_i2d hx hb (dc tbX1_springBackBetween_1_k 3 rfl) ?_
    obtain ⟨h10, hf⟩ := chk_s hf
    refine lv_dsub hx hb (dc tbX1_springBackBetween_1_k 4 rfl) (n64_b h10) ?_
    obtain ⟨h11, hf⟩ := chk_s hf
    refine lv_dmul hx hb (dc tbX1_springBackBetween_1_k 5 rfl) (n64_b h11) ?_
    refine lv_dload hx hb (dc tbX1_springBackBetween_1_k 6 rfl) (lv_at hl 1 rfl) ?_
    obtain ⟨h12, hf⟩ := chk_s hf
    refine lv_ddiv hx hb (dc tbX1_springBackBetween_1_k 7 rfl) (n64_b h12) ?_
    obtain ⟨h13, hf⟩ := chk_s hf
    refine lv_dadd hx hb (dc tbX1_springBackBetween_1_k 8 rfl) (n64_b h13) ?_
    cases hf
    exact g_dret hx hb hr hlk hI (dc tbX1_springBackBetween_1_k 9 rfl)
  · have hf := ite_f c4 hf
    refine lv_aload_n hx hb (dc tbX1_springBackBetween_0_k 15 rfl) rfl (lv_at hl 1 rfl) ?_
    refine gg1_12 hx hb hts hown hK hI hk0.1 q_t1_125 (dc tbX1_springBackBetween_0_k 16 rfl) ?_
    refine lv_iload_n hx hb (dc tbX1_springBackBetween_0_k 17 rfl) rfl (lv_at hl 2 rfl) ?_
    obtain ⟨h14, hf⟩ := chk_s hf
    refine g_iald hx hb hK hI hk0.2.2.2.2.1 (okb_in h14) (dc tbX1_springBackBetween_0_k 18 rfl) ?_
    refine lv_i2d hx hb (dc tbX1_springBackBetween_0_k 19 rfl) ?_
    cases hf
    exact g_dret hx hb hr hlk hI (dc tbX1_springBackBetween_0_k 20 rfl)
theorem cv_X1_springBackBetween : cvF RX1 yX1_springBackBetween cX1_springBackBetween 9 (some .double) 3 := ⟨q_t2_176, q_s1_2, q_t1_3, q_t2_177, by decide +kernel⟩
def mX1_springBackAt_b73 (k0 : Nat) (M : Mem) : Option UInt64 := chk (okb ((rd M k0 10) - (1 : Int32)) 8) (some (FP.i2d (rd M (k0 + 4) (((rd M k0 10) - (1 : Int32))).toNatClampNeg)))
set_option maxHeartbeats 4000000 in
set_option maxRecDepth 100000 in
theorem tX1_springBackAt_b73 {p : Program} {l : Launch} {e : Env} {s : State} {m : MethodId} {args : Array Value} {below : List Frame} {meth : Method} {c : Code} {G : GT} {kd : Nat → Nat × Nat} {ad : Nat → Nat} (C : Cx p s m args meth c cX1_springBackAt 4 (some .double) RX1 G kd ad) {k0 : Nat} (hk0 : kPart kd k0) {M : Mem} {vo : UInt64}   : mX1_springBackAt_b73 k0 M = some vo → At p l e (rmO 1 0 0) s m args below meth c 0 0 (MQ below (Qg G kd ad s.heap.size M (some (.double vo))) args s 0 0 (AS kd ad s.heap.size)) G kd ad 4 73 [(0, .ref (ad k0))] [] M := by
  intro hf H locs ls hI hl
  obtain ⟨hx, hb, hml, hr, hown, hts, hlk, hK, hap, hsx⟩ := id C
  unfold mX1_springBackAt_b73 at hf
  refine lv_aload_n hx hb (dc tbX1_springBackAt_1_k 6 rfl) rfl (lv_at hl 0 rfl) ?_
  refine gg1_12 hx hb hts hown hK hI hk0.1 q_t1_125 (dc tbX1_springBackAt_1_k 7 rfl) ?_
  refine lv_aload_n hx hb (dc tbX1_springBackAt_1_k 8 rfl) rfl (lv_at hl 0 rfl) ?_
  refine gg1_10 hx hb hts hown hK hI hk0.1 q_t1_122 (dc tbX1_springBackAt_1_k 9 rfl) ?_
  refine lv_iconst (v := 1) hx hb (dc tbX1_springBackAt_1_k 10 rfl) ic_1 ?_
  refine lv_isub hx hb (dc tbX1_springBackAt_1_k 11 rfl) ?_
  obtain ⟨h5, hf⟩ := chk_s hf
  refine g_iald hx hb hK hI hk0.2.2.2.2.1 (okb_in h5) (dc tbX1_springBackAt_1_k 12 rfl) ?_
  refine lv_i2d hx hb (dc tbX1_springBackAt_1_k 13 rfl) ?_
  cases hf
  exact g_dret hx hb hr hlk hI (dc tbX1_springBackAt_1_k 14 rfl)
def mX1_springBackAt_b31 (k0 : Nat) (M : Mem) (ih31 : UInt64 → Int32 → Option UInt64) (x1 : UInt64) (x3 : Int32) : Option UInt64 := ite2 ((rd M k0 10) ≤ x3) (mX1_springBackAt_b73 k0 M) (ite2 ((8 : Int32) ≤ x3) (mX1_springBackAt_b73 k0 M) (chk (okb x3 8) (ite2 (0 < (Op.cmpValue (FP.dcmp x1 (FP.i2d (rd M (k0 + 3) (x3).toNatClampNeg))) CmpOp.g)) (bnd (x3 + (1 : Int32)) (fun x3_67 => ih31 x1 x3_67)) (cap (mX1_springBackBetween k0 (x3 - (1 : Int32)) x3 x1 M) (fun r11 => some r11)))))
set_option maxHeartbeats 4000000 in
set_option maxRecDepth 100000 in
theorem tX1_springBackAt_b31 {p : Program} {l : Launch} {e : Env} {s : State} {m : MethodId} {args : Array Value} {below : List Frame} {meth : Method} {c : Code} {G : GT} {kd : Nat → Nat × Nat} {ad : Nat → Nat} (C : Cx p s m args meth c cX1_springBackAt 4 (some .double) RX1 G kd ad) {k0 : Nat} (hk0 : kPart kd k0) {M : Mem} {vo : UInt64} {ih31 : UInt64 → Int32 → Option UInt64} (hih31 : ∀ (x1 : UInt64) (x3 : Int32), ih31 x1 x3 = some vo → At p l e (rmO 1 0 0) s m args below meth c 0 0 (MQ below (Qg G kd ad s.heap.size M (some (.double vo))) args s 0 0 (AS kd ad s.heap.size)) G kd ad 4 31 [(0, .ref (ad k0)), (1, .double x1), (3, .int x3)] [] M) : ∀ (x1 : UInt64) (x3 : Int32), mX1_springBackAt_b31 k0 M ih31 x1 x3 = some vo → At p l e (rmO 1 0 0) s m args below meth c 0 0 (MQ below (Qg G kd ad s.heap.size M (some (.double vo))) args s 0 0 (AS kd ad s.heap.size)) G kd ad 4 31 [(0, .ref (ad k0)), (1, .double x1), (3, .int x3)] [] M := by
  intro x1 x3 hf H locs ls hI hl
  obtain ⟨hx, hb, hml, hr, hown, hts, hlk, hK, hap, hsx⟩ := id C
  unfold mX1_springBackAt_b31 at hf
  refine lv_iload_n hx hb (dc tbX1_springBackAt_0_k 21 rfl) rfl (lv_at hl 2 rfl) ?_
  refine lv_aload_n hx hb (dc tbX1_springBackAt_0_k 22 rfl) rfl (lv_at hl 0 rfl) ?_
  refine gg1_10 hx hb hts hown hK hI hk0.1 q_t1_122 (dc tbX1_springBackAt_0_k 23 rfl) ?_
  refine lv_icmp_ge (tgt := 73) hx hb (dc tbX1_springBackAt_0_k 24 rfl) rfl (fun c4 => ?_) (fun c4 => ?_)
  · have hf := ite_t c4 hf
    exact tX1_springBackAt_b73 C hk0 hf _ _ _ hI (lv_sub hl [0] rfl)
  · have hf := ite_f c4 hf
    refine lv_iload_n hx hb (dc tbX1_springBackAt_0_k 25 rfl) rfl (lv_at hl 2 rfl) ?_
    refine lv_bipush (v := 8) hx hb (dc tbX1_springBackAt_0_k 26 rfl) bp_8 ?_
    refine lv_icmp_ge (tgt := 73) hx hb (dc tbX1_springBackAt_0_k 27 rfl) rfl (fun c6 => ?_) (fun c6 => ?_)
    · have hf := ite_t c6 hf
      exact tX1_springBackAt_b73 C hk0 hf _ _ _ hI (lv_sub hl [0] rfl)
    · have hf := ite_f c6 hf
      refine lv_dload_n hx hb (dc tbX1_springBackAt_0_k 28 rfl) rfl (lv_at hl 1 rfl) ?_
      refine lv_aload_n hx hb (dc tbX1_springBackAt_0_k 29 rfl) rfl (lv_at hl 0 rfl) ?_
      refine gg1_11 hx hb hts hown hK hI hk0.1 q_t1_124 (dc tbX1_springBackAt_0_k 30 rfl) ?_
      refine lv_iload_n hx hb (dc tbX1_springBackAt_0_k 31 rfl) rfl (lv_at hl 2 rfl) ?_
      obtain ⟨h7, hf⟩ := chk_s hf
      refine g_iald hx hb hK hI hk0.2.2.2.1 (okb_in h7) (dc tbX1_springBackAt_0_k 32 rfl) ?_
      refine lv_i2d hx hb (dc tbX1_springBackAt_0_k 33 rfl) ?_
      refine lv_dcmp hx hb (dc tbX1_springBackAt_0_k 34 rfl) ?_
      refine lv_if_gt (tgt := 67) hx hb (dc tbX1_springBackAt_0_k 35 rfl) rfl (fun c8 => ?_) (fun c8 => ?_)
      · have hf := ite_t c8 hf
        obtain ⟨x3_67, e9, hf⟩ := bnd_s hf
        refine lv_iinc (v := x3_67) (lv' := [(3, .int x3_67), (0, .ref (ad k0)), (1, .double x1)]) hx hb (dc tbX1_springBackAt_1_k 4 rfl) hl (k := 2) rfl (ii_e e9 ic_1) (by decide) rfl (fun ls hl => ?_)
        refine lv_goto (tgt := 31) hx hb (dc tbX1_springBackAt_1_k 5 rfl) rfl ?_
        exact hih31 x1 x3_67 hf _ _ _ hI (lv_sub hl [1, 2, 0] rfl)
      · have hf := ite_f c8 hf
        refine lv_aload_n hx hb (dc tbX1_springBackAt_0_k 36 rfl) rfl (lv_at hl 0 rfl) ?_
        refine lv_iload_n hx hb (dc tbX1_springBackAt_0_k 37 rfl) rfl (lv_at hl 2 rfl) ?_
        refine lv_iconst (v := 1) hx hb (dc tbX1_springBackAt_0_k 38 rfl) ic_1 ?_
        refine lv_isub hx hb (dc tbX1_springBackAt_0_k 39 rfl) ?_
        refine lv_iload_n hx hb (dc tbX1_springBackAt_1_k 0 rfl) rfl (lv_at hl 2 rfl) ?_
        refine lv_dload_n hx hb (dc tbX1_springBackAt_1_k 1 rfl) rfl (lv_at hl 1 rfl) ?_
        obtain ⟨r11, q10, hf⟩ := cap_s hf
        refine g_callVd hx hb hml hown hts hK hap hsx hI (tX1_springBackBetween l hk0 q10 H.size) cv_X1_springBackBetween q_t2_174 rfl rfl ⟨Nat.le_of_ble_eq_true rfl, Nat.le_of_ble_eq_true rfl⟩ hk0.1 (by simp) rfl rfl rfl hl.1 rfl (Nat.le_of_ble_eq_true rfl) (dc tbX1_springBackAt_1_k 2 rfl) ⟨Nat.le_of_ble_eq_true rfl, Nat.le_of_ble_eq_true rfl⟩ (fun H locs hI => ?_)
        cases hf
        exact g_dret hx hb hr hlk hI (dc tbX1_springBackAt_1_k 3 rfl)
def mX1_springBackAt_l31 (k0 : Nat) (M : Mem) : Nat → UInt64 → Int32 → Option UInt64
  | 0 => fun _ _ => none
  | n + 1 => mX1_springBackAt_b31 k0 M (mX1_springBackAt_l31 k0 M n)
theorem tX1_springBackAt_l31 {p : Program} {l : Launch} {e : Env} {s : State} {m : MethodId} {args : Array Value} {below : List Frame} {meth : Method} {c : Code} {G : GT} {kd : Nat → Nat × Nat} {ad : Nat → Nat} (C : Cx p s m args meth c cX1_springBackAt 4 (some .double) RX1 G kd ad) {k0 : Nat} (hk0 : kPart kd k0) {M : Mem} {vo : UInt64}   : ∀ (fuel : Nat) (x1 : UInt64) (x3 : Int32), mX1_springBackAt_l31 k0 M fuel x1 x3 = some vo → At p l e (rmO 1 0 0) s m args below meth c 0 0 (MQ below (Qg G kd ad s.heap.size M (some (.double vo))) args s 0 0 (AS kd ad s.heap.size)) G kd ad 4 31 [(0, .ref (ad k0)), (1, .double x1), (3, .int x3)] [] M := by
  intro fuel
  induction fuel with
  | zero => intro x1 x3 hf; cases hf
  | succ n IH => exact tX1_springBackAt_b31 C hk0 IH
def mX1_springBackAt (k0 : Nat) (x1 : UInt64) (M : Mem) : Option UInt64 := ite2 ((rd M k0 10) = 0) (some FP.dconst0) (chk (okb (0 : Int32) 8) (ite2 (0 < (Op.cmpValue (FP.dcmp x1 (FP.i2d (rd M (k0 + 3) ((0 : Int32)).toNatClampNeg))) CmpOp.g)) (mX1_springBackAt_l31 k0 M 5000 x1 (1 : Int32)) (chk (okb (0 : Int32) 8) (some (FP.i2d (rd M (k0 + 4) ((0 : Int32)).toNatClampNeg))))))
set_option maxHeartbeats 4000000 in
set_option maxRecDepth 100000 in
theorem tX1_springBackAt (l : Launch) {G : GT} {kd : Nat → Nat × Nat} {ad : Nat → Nat} {k0 : Nat} (hk0 : kPart kd k0) {x1 : UInt64} {M : Mem} {vo : UInt64} (hf : mX1_springBackAt k0 x1 M = some vo) (n : Nat) : Met l yX1_springBackAt (Cond.code yX1_springBackAt cX1_springBackAt 4 (some .double) :: WA) (rmO 1 0 0) (Pg G kd ad n [.ref (ad k0), .double x1] M) (Qg G kd ad n M (some (.double vo))) 0 0 (AS kd ad n) := by
  refine g_body (own := RX1) (by decide) rfl ?_ (Nat.le_of_ble_eq_true rfl)
  intro p e s m args below meth c C _ H locs ls hI hl
  obtain ⟨hx, hb, hml, hr, hown, hts, hlk, hK, hap, hsx⟩ := id C
  have hl : lv_has ls 4 [(0, .ref (ad k0)), (1, .double x1)] := hl
  unfold mX1_springBackAt at hf
  refine lv_aload_n hx hb (dc tbX1_springBackAt_0_k 0 rfl) rfl (lv_at hl 0 rfl) ?_
  refine gg1_10 hx hb hts hown hK hI hk0.1 q_t1_122 (dc tbX1_springBackAt_0_k 1 rfl) ?_
  refine lv_if_ne (tgt := 9) hx hb (dc tbX1_springBackAt_0_k 2 rfl) rfl (fun c1 => ?_) (fun c1 => ?_)
  · have hf := ite_f c1 hf
    refine lv_dload_n hx hb (dc tbX1_springBackAt_0_k 5 rfl) rfl (lv_at hl 1 rfl) ?_
    refine lv_aload_n hx hb (dc tbX1_springBackAt_0_k 6 rfl) rfl (lv_at hl 0 rfl) ?_
    refine gg1_11 hx hb hts hown hK hI hk0.1 q_t1_124 (dc tbX1_springBackAt_0_k 7 rfl) ?_
    refine lv_iconst (v := 0) hx hb (dc tbX1_springBackAt_0_k 8 rfl) ic_0 ?_
    obtain ⟨h2, hf⟩ := chk_s hf
    refine g_iald hx hb hK hI hk0.2.2.2.1 (okb_in h2) (dc tbX1_springBackAt_0_k 9 rfl) ?_
    refine lv_i2d hx hb (dc tbX1_springBackAt_0_k 10 rfl) ?_
    refine lv_dcmp hx hb (dc tbX1_springBackAt_0_k 11 rfl) ?_
    refine lv_if_gt (tgt := 29) hx hb (dc tbX1_springBackAt_0_k 12 rfl) rfl (fun c3 => ?_) (fun c3 => ?_)
    · have hf := ite_t c3 hf
      refine lv_iconst (v := 1) hx hb (dc tbX1_springBackAt_0_k 19 rfl) ic_1 ?_
      refine lv_istore_n (lv' := [(3, .int (1 : Int32)), (0, .ref (ad k0)), (1, .double x1)]) hx hb (dc tbX1_springBackAt_0_k 20 rfl) rfl hl (by decide) rfl (fun ls hl => ?_)
      exact tX1_springBackAt_l31 C hk0 5000 x1 (1 : Int32) hf _ _ _ hI (lv_sub hl [1, 2, 0] rfl)
    · have hf := ite_f c3 hf
      refine lv_aload_n hx hb (dc tbX1_springBackAt_0_k 13 rfl) rfl (lv_at hl 0 rfl) ?_
      refine gg1_12 hx hb hts hown hK hI hk0.1 q_t1_125 (dc tbX1_springBackAt_0_k 14 rfl) ?_
      refine lv_iconst (v := 0) hx hb (dc tbX1_springBackAt_0_k 15 rfl) ic_0 ?_
      obtain ⟨h13, hf⟩ := chk_s hf
      refine g_iald hx hb hK hI hk0.2.2.2.2.1 (okb_in h13) (dc tbX1_springBackAt_0_k 16 rfl) ?_
      refine lv_i2d hx hb (dc tbX1_springBackAt_0_k 17 rfl) ?_
      cases hf
      exact g_dret hx hb hr hlk hI (dc tbX1_springBackAt_0_k 18 rfl)
  · have hf := ite_t c1 hf
    refine lv_dconst0 hx hb (dc tbX1_springBackAt_0_k 3 rfl) ?_
    cases hf
    exact g_dret hx hb hr hlk hI (dc tbX1_springBackAt_0_k 4 rfl)
theorem cv_X1_springBackAt : cvF RX1 yX1_springBackAt cX1_springBackAt 4 (some .double) 1 := ⟨q_t2_171, q_t2_172, q_t1_3, q_t2_173, by decide +kernel⟩
def mX1_addStep (k0 : Nat) (x1 : Int32) (x2 : Int32) (x3 : Int32) (M : Mem) : Option (Mem × Unit) := ite2 ((8 : Int32) ≤ (rd M k0 14)) (some (M, ())) (chk (okb (rd M k0 14) 8) (bnd (wr M (k0 + 5) ((rd M k0 14)).toNatClampNeg x1) (fun M4 => chk (okb (rd M4 k0 14) 8) (bnd (wr M4 (k0 + 6) ((rd M4 k0 14)).toNatClampNeg x2) (fun M7 => chk (okb (rd M7 k0 14) 8) (bnd (wr M7 (k0 + 7) ((rd M7 k0 14)).toNatClampNeg x3) (fun M10 => bnd (wr M10 k0 14 ((rd M10 k0 14) + (1 : Int32))) (fun M11 => bnd (wr M11 k0 13 ((rd M11 k0 13) ||| ((1 : Int32) <<< ((x1 >>> ((1 : Int32) &&& 31)) &&& 31)))) (fun M13 => some (M13, ()))))))))))
set_option maxHeartbeats 4000000 in
set_option maxRecDepth 100000 in
theorem tX1_addStep (l : Launch) {G : GT} {kd : Nat → Nat × Nat} {ad : Nat → Nat} {k0 : Nat} (hk0 : kPart kd k0) {x1 : Int32} {x2 : Int32} {x3 : Int32} {M : Mem} {MO : Mem} {vo : Unit} (hf : mX1_addStep k0 x1 x2 x3 M = some (MO, vo)) (n : Nat) : Met l yX1_addStep (Cond.code yX1_addStep cX1_addStep 4 none :: WA) (rmO 0 0 0) (Pg G kd ad n [.ref (ad k0), .int x1, .int x2, .int x3] M) (Qg G kd ad n MO none) 0 0 (AS kd ad n) := by
  refine g_body (own := RX1) (by decide) rfl ?_ (Nat.le_of_ble_eq_true rfl)
  intro p e s m args below meth c C _ H locs ls hI hl
  obtain ⟨hx, hb, hml, hr, hown, hts, hlk, hK, hap, hsx⟩ := id C
  have hl : lv_has ls 4 [(0, .ref (ad k0)), (1, .int x1), (2, .int x2), (3, .int x3)] := hl
  unfold mX1_addStep at hf
  refine lv_aload_n hx hb (dc tbX1_addStep_k 0 rfl) rfl (lv_at hl 0 rfl) ?_
  refine gg1_14 hx hb hts hown hK hI hk0.1 q_t1_129 (dc tbX1_addStep_k 1 rfl) ?_
  refine lv_bipush (v := 8) hx hb (dc tbX1_addStep_k 2 rfl) bp_8 ?_
  refine lv_icmp_ge (tgt := 63) hx hb (dc tbX1_addStep_k 3 rfl) rfl (fun c1 => ?_) (fun c1 => ?_)
  · have hf := ite_t c1 hf
    cases hf
    exact g_vret hx hb hr hlk hI (dc tbX1_addStep_k 38 rfl)
  · have hf := ite_f c1 hf
    refine lv_aload_n hx hb (dc tbX1_addStep_k 4 rfl) rfl (lv_at hl 0 rfl) ?_
    refine gg1_15 hx hb hts hown hK hI hk0.1 q_t1_131 (dc tbX1_addStep_k 5 rfl) ?_
    refine lv_aload_n hx hb (dc tbX1_addStep_k 6 rfl) rfl (lv_at hl 0 rfl) ?_
    refine gg1_14 hx hb hts hown hK hI hk0.1 q_t1_129 (dc tbX1_addStep_k 7 rfl) ?_
    refine lv_iload_n hx hb (dc tbX1_addStep_k 8 rfl) rfl (lv_at hl 1 rfl) ?_
    obtain ⟨h2, hf⟩ := chk_s hf
    obtain ⟨M4, e3, hf⟩ := bnd_s hf
    refine g_iast hx hb hK hap hI hk0.2.2.2.2.2.1 (okb_in h2) (dc tbX1_addStep_k 9 rfl) e3 (fun H locs hI => ?_)
    refine lv_aload_n hx hb (dc tbX1_addStep_k 10 rfl) rfl (lv_at hl 0 rfl) ?_
    refine gg1_16 hx hb hts hown hK hI hk0.1 q_t1_133 (dc tbX1_addStep_k 11 rfl) ?_
    refine lv_aload_n hx hb (dc tbX1_addStep_k 12 rfl) rfl (lv_at hl 0 rfl) ?_
    refine gg1_14 hx hb hts hown hK hI hk0.1 q_t1_129 (dc tbX1_addStep_k 13 rfl) ?_
    refine lv_iload_n hx hb (dc tbX1_addStep_k 14 rfl) rfl (lv_at hl 2 rfl) ?_
    obtain ⟨h5, hf⟩ := chk_s hf
    obtain ⟨M7, e6, hf⟩ := bnd_s hf
    refine g_iast hx hb hK hap hI hk0.2.2.2.2.2.2.1 (okb_in h5) (dc tbX1_addStep_k 15 rfl) e6 (fun H locs hI => ?_)
    refine lv_aload_n hx hb (dc tbX1_addStep_k 16 rfl) rfl (lv_at hl 0 rfl) ?_
    refine gg1_17 hx hb hts hown hK hI hk0.1 q_t1_135 (dc tbX1_addStep_k 17 rfl) ?_
    refine lv_aload_n hx hb (dc tbX1_addStep_k 18 rfl) rfl (lv_at hl 0 rfl) ?_
    refine gg1_14 hx hb hts hown hK hI hk0.1 q_t1_129 (dc tbX1_addStep_k 19 rfl) ?_
    refine lv_iload_n hx hb (dc tbX1_addStep_k 20 rfl) rfl (lv_at hl 3 rfl) ?_
    obtain ⟨h8, hf⟩ := chk_s hf
    obtain ⟨M10, e9, hf⟩ := bnd_s hf
    refine g_iast hx hb hK hap hI hk0.2.2.2.2.2.2.2 (okb_in h8) (dc tbX1_addStep_k 21 rfl) e9 (fun H locs hI => ?_)
    refine lv_aload_n hx hb (dc tbX1_addStep_k 22 rfl) rfl (lv_at hl 0 rfl) ?_
    refine lv_dup hx hb (dc tbX1_addStep_k 23 rfl) rfl ?_
    refine gg1_14 hx hb hts hown hK hI hk0.1 q_t1_129 (dc tbX1_addStep_k 24 rfl) ?_
    refine lv_iconst (v := 1) hx hb (dc tbX1_addStep_k 25 rfl) ic_1 ?_
    refine lv_iadd hx hb (dc tbX1_addStep_k 26 rfl) ?_
    obtain ⟨M11, e12, hf⟩ := bnd_s hf
    refine gp1_14 hx hb hts hown hK hap hI hk0.1 q_t1_129 (dc tbX1_addStep_k 27 rfl) e12 (fun H locs hI => ?_)
    refine lv_aload_n hx hb (dc tbX1_addStep_k 28 rfl) rfl (lv_at hl 0 rfl) ?_
    refine lv_dup hx hb (dc tbX1_addStep_k 29 rfl) rfl ?_
    refine gg1_13 hx hb hts hown hK hI hk0.1 q_t1_126 (dc tbX1_addStep_k 30 rfl) ?_
    refine lv_iconst (v := 1) hx hb (dc tbX1_addStep_k 31 rfl) ic_1 ?_
    refine lv_iload_n hx hb (dc tbX1_addStep_k 32 rfl) rfl (lv_at hl 1 rfl) ?_
    refine lv_iconst (v := 1) hx hb (dc tbX1_addStep_k 33 rfl) ic_1 ?_
    refine lv_ishr hx hb (dc tbX1_addStep_k 34 rfl) ?_
    refine lv_ishl hx hb (dc tbX1_addStep_k 35 rfl) ?_
    refine lv_ior hx hb (dc tbX1_addStep_k 36 rfl) ?_
    obtain ⟨M13, e14, hf⟩ := bnd_s hf
    refine gp1_13 hx hb hts hown hK hap hI hk0.1 q_t1_126 (dc tbX1_addStep_k 37 rfl) e14 (fun H locs hI => ?_)
    cases hf
    exact g_vret hx hb hr hlk hI (dc tbX1_addStep_k 38 rfl)
theorem cv_X1_addStep : cvF RX1 yX1_addStep cX1_addStep 4 none 3 := ⟨q_t6_223, q_t6_224, q_t1_3, q_t6_225, by decide +kernel⟩
def mX1_lastCode (k0 : Nat) (M : Mem) : Option Int32 := ite2 ((rd M k0 14) ≤ 0) (some (-1 : Int32)) (chk (okb ((rd M k0 14) - (1 : Int32)) 8) (some (rd M (k0 + 5) (((rd M k0 14) - (1 : Int32))).toNatClampNeg)))
set_option maxHeartbeats 4000000 in
set_option maxRecDepth 100000 in
theorem tX1_lastCode (l : Launch) {G : GT} {kd : Nat → Nat × Nat} {ad : Nat → Nat} {k0 : Nat} (hk0 : kPart kd k0) {M : Mem} {vo : Int32} (hf : mX1_lastCode k0 M = some vo) (n : Nat) : Met l yX1_lastCode (Cond.code yX1_lastCode cX1_lastCode 1 (some .int) :: WA) (rmO 0 0 0) (Pg G kd ad n [.ref (ad k0)] M) (Qg G kd ad n M (some (.int vo))) 0 0 (AS kd ad n) := by
  refine g_body (own := RX1) (by decide) rfl ?_ (Nat.le_of_ble_eq_true rfl)
  intro p e s m args below meth c C _ H locs ls hI hl
  obtain ⟨hx, hb, hml, hr, hown, hts, hlk, hK, hap, hsx⟩ := id C
  have hl : lv_has ls 1 [(0, .ref (ad k0))] := hl
  unfold mX1_lastCode at hf
  refine lv_aload_n hx hb (dc tbX1_lastCode_k 0 rfl) rfl (lv_at hl 0 rfl) ?_
  refine gg1_14 hx hb hts hown hK hI hk0.1 q_t1_129 (dc tbX1_lastCode_k 1 rfl) ?_
  refine lv_if_le (tgt := 21) hx hb (dc tbX1_lastCode_k 2 rfl) rfl (fun c1 => ?_) (fun c1 => ?_)
  · have hf := ite_t c1 hf
    refine lv_iconst (v := -1) hx hb (dc tbX1_lastCode_k 11 rfl) ic_m1 ?_
    cases hf
    exact g_iret hx hb hr hlk hI (dc tbX1_lastCode_k 12 rfl)
  · have hf := ite_f c1 hf
    refine lv_aload_n hx hb (dc tbX1_lastCode_k 3 rfl) rfl (lv_at hl 0 rfl) ?_
    refine gg1_15 hx hb hts hown hK hI hk0.1 q_t1_131 (dc tbX1_lastCode_k 4 rfl) ?_
    refine lv_aload_n hx hb (dc tbX1_lastCode_k 5 rfl) rfl (lv_at hl 0 rfl) ?_
    refine gg1_14 hx hb hts hown hK hI hk0.1 q_t1_129 (dc tbX1_lastCode_k 6 rfl) ?_
    refine lv_iconst (v := 1) hx hb (dc tbX1_lastCode_k 7 rfl) ic_1 ?_
    refine lv_isub hx hb (dc tbX1_lastCode_k 8 rfl) ?_
    obtain ⟨h2, hf⟩ := chk_s hf
    refine g_iald hx hb hK hI hk0.2.2.2.2.2.1 (okb_in h2) (dc tbX1_lastCode_k 9 rfl) ?_
    refine lv_goto (tgt := 22) hx hb (dc tbX1_lastCode_k 10 rfl) rfl ?_
    cases hf
    exact g_iret hx hb hr hlk hI (dc tbX1_lastCode_k 12 rfl)
theorem cv_X1_lastCode : cvF RX1 yX1_lastCode cX1_lastCode 1 (some .int) 0 := ⟨q_t3_72, q_t3_73, q_t1_3, q_t3_74, by decide +kernel⟩
def mX1_lastGauge (k0 : Nat) (M : Mem) : Option Int32 := ite2 ((rd M k0 14) ≤ 0) (some (-1 : Int32)) (chk (okb ((rd M k0 14) - (1 : Int32)) 8) (some (rd M (k0 + 6) (((rd M k0 14) - (1 : Int32))).toNatClampNeg)))
set_option maxHeartbeats 4000000 in
set_option maxRecDepth 100000 in
theorem tX1_lastGauge (l : Launch) {G : GT} {kd : Nat → Nat × Nat} {ad : Nat → Nat} {k0 : Nat} (hk0 : kPart kd k0) {M : Mem} {vo : Int32} (hf : mX1_lastGauge k0 M = some vo) (n : Nat) : Met l yX1_lastGauge (Cond.code yX1_lastGauge cX1_lastGauge 1 (some .int) :: WA) (rmO 0 0 0) (Pg G kd ad n [.ref (ad k0)] M) (Qg G kd ad n M (some (.int vo))) 0 0 (AS kd ad n) := by
  refine g_body (own := RX1) (by decide) rfl ?_ (Nat.le_of_ble_eq_true rfl)
  intro p e s m args below meth c C _ H locs ls hI hl
  obtain ⟨hx, hb, hml, hr, hown, hts, hlk, hK, hap, hsx⟩ := id C
  have hl : lv_has ls 1 [(0, .ref (ad k0))] := hl
  unfold mX1_lastGauge at hf
  refine lv_aload_n hx hb (dc tbX1_lastGauge_k 0 rfl) rfl (lv_at hl 0 rfl) ?_
  refine gg1_14 hx hb hts hown hK hI hk0.1 q_t1_129 (dc tbX1_lastGauge_k 1 rfl) ?_
  refine lv_if_le (tgt := 21) hx hb (dc tbX1_lastGauge_k 2 rfl) rfl (fun c1 => ?_) (fun c1 => ?_)
  · have hf := ite_t c1 hf
    refine lv_iconst (v := -1) hx hb (dc tbX1_lastGauge_k 11 rfl) ic_m1 ?_
    cases hf
    exact g_iret hx hb hr hlk hI (dc tbX1_lastGauge_k 12 rfl)
  · have hf := ite_f c1 hf
    refine lv_aload_n hx hb (dc tbX1_lastGauge_k 3 rfl) rfl (lv_at hl 0 rfl) ?_
    refine gg1_16 hx hb hts hown hK hI hk0.1 q_t1_133 (dc tbX1_lastGauge_k 4 rfl) ?_
    refine lv_aload_n hx hb (dc tbX1_lastGauge_k 5 rfl) rfl (lv_at hl 0 rfl) ?_
    refine gg1_14 hx hb hts hown hK hI hk0.1 q_t1_129 (dc tbX1_lastGauge_k 6 rfl) ?_
    refine lv_iconst (v := 1) hx hb (dc tbX1_lastGauge_k 7 rfl) ic_1 ?_
    refine lv_isub hx hb (dc tbX1_lastGauge_k 8 rfl) ?_
    obtain ⟨h2, hf⟩ := chk_s hf
    refine g_iald hx hb hK hI hk0.2.2.2.2.2.2.1 (okb_in h2) (dc tbX1_lastGauge_k 9 rfl) ?_
    refine lv_goto (tgt := 22) hx hb (dc tbX1_lastGauge_k 10 rfl) rfl ?_
    cases hf
    exact g_iret hx hb hr hlk hI (dc tbX1_lastGauge_k 12 rfl)
theorem cv_X1_lastGauge : cvF RX1 yX1_lastGauge cX1_lastGauge 1 (some .int) 0 := ⟨q_t3_76, q_t3_77, q_t1_3, q_t3_78, by decide +kernel⟩
def mX1_sumOfCosts_b4 (k0 : Nat) (M : Mem) (ih4 : Int32 → Int32 → Option Int32) (x1 : Int32) (x2 : Int32) : Option Int32 := ite2 ((rd M k0 14) ≤ x2) (some x1) (ite2 ((8 : Int32) ≤ x2) (some x1) (chk (okb x2 8) (bnd ((x1 + (rd M (k0 + 7) (x2).toNatClampNeg))) (fun x1_26 => bnd (x2 + (1 : Int32)) (fun x2_27 => ih4 x1_26 x2_27)))))
set_option maxHeartbeats 4000000 in
set_option maxRecDepth 100000 in
theorem tX1_sumOfCosts_b4 {p : Program} {l : Launch} {e : Env} {s : State} {m : MethodId} {args : Array Value} {below : List Frame} {meth : Method} {c : Code} {G : GT} {kd : Nat → Nat × Nat} {ad : Nat → Nat} (C : Cx p s m args meth c cX1_sumOfCosts 3 (some .int) RX1 G kd ad) {k0 : Nat} (hk0 : kPart kd k0) {M : Mem} {vo : Int32} {ih4 : Int32 → Int32 → Option Int32} (hih4 : ∀ (x1 : Int32) (x2 : Int32), ih4 x1 x2 = some vo → At p l e (rmO 0 0 0) s m args below meth c 0 0 (MQ below (Qg G kd ad s.heap.size M (some (.int vo))) args s 0 0 (AS kd ad s.heap.size)) G kd ad 3 4 [(0, .ref (ad k0)), (1, .int x1), (2, .int x2)] [] M) : ∀ (x1 : Int32) (x2 : Int32), mX1_sumOfCosts_b4 k0 M ih4 x1 x2 = some vo → At p l e (rmO 0 0 0) s m args below meth c 0 0 (MQ below (Qg G kd ad s.heap.size M (some (.int vo))) args s 0 0 (AS kd ad s.heap.size)) G kd ad 3 4 [(0, .ref (ad k0)), (1, .int x1), (2, .int x2)] [] M := by
  intro x1 x2 hf H locs ls hI hl
  obtain ⟨hx, hb, hml, hr, hown, hts, hlk, hK, hap, hsx⟩ := id C
  unfold mX1_sumOfCosts_b4 at hf
  refine lv_iload_n hx hb (dc tbX1_sumOfCosts_k 4 rfl) rfl (lv_at hl 2 rfl) ?_
  refine lv_aload_n hx hb (dc tbX1_sumOfCosts_k 5 rfl) rfl (lv_at hl 0 rfl) ?_
  refine gg1_14 hx hb hts hown hK hI hk0.1 q_t1_129 (dc tbX1_sumOfCosts_k 6 rfl) ?_
  refine lv_icmp_ge (tgt := 33) hx hb (dc tbX1_sumOfCosts_k 7 rfl) rfl (fun c1 => ?_) (fun c1 => ?_)
  · have hf := ite_t c1 hf
    refine lv_iload_n hx hb (dc tbX1_sumOfCosts_k 20 rfl) rfl (lv_at hl 1 rfl) ?_
    cases hf
    exact g_iret hx hb hr hlk hI (dc tbX1_sumOfCosts_k 21 rfl)
  · have hf := ite_f c1 hf
    refine lv_iload_n hx hb (dc tbX1_sumOfCosts_k 8 rfl) rfl (lv_at hl 2 rfl) ?_
    refine lv_bipush (v := 8) hx hb (dc tbX1_sumOfCosts_k 9 rfl) bp_8 ?_
    refine lv_icmp_ge (tgt := 33) hx hb (dc tbX1_sumOfCosts_k 10 rfl) rfl (fun c2 => ?_) (fun c2 => ?_)
    · have hf := ite_t c2 hf
      refine lv_iload_n hx hb (dc tbX1_sumOfCosts_k 20 rfl) rfl (lv_at hl 1 rfl) ?_
      cases hf
      exact g_iret hx hb hr hlk hI (dc tbX1_sumOfCosts_k 21 rfl)
    · have hf := ite_f c2 hf
      refine lv_iload_n hx hb (dc tbX1_sumOfCosts_k 11 rfl) rfl (lv_at hl 1 rfl) ?_
      refine lv_aload_n hx hb (dc tbX1_sumOfCosts_k 12 rfl) rfl (lv_at hl 0 rfl) ?_
      refine gg1_17 hx hb hts hown hK hI hk0.1 q_t1_135 (dc tbX1_sumOfCosts_k 13 rfl) ?_
      refine lv_iload_n hx hb (dc tbX1_sumOfCosts_k 14 rfl) rfl (lv_at hl 2 rfl) ?_
      obtain ⟨h3, hf⟩ := chk_s hf
      refine g_iald hx hb hK hI hk0.2.2.2.2.2.2.2 (okb_in h3) (dc tbX1_sumOfCosts_k 15 rfl) ?_
      refine lv_iadd hx hb (dc tbX1_sumOfCosts_k 16 rfl) ?_
      obtain ⟨x1_26, e4, hf⟩ := bnd_s hf
      refine lv_ei e4 ?_
      refine lv_istore_n (lv' := [(1, .int x1_26), (0, .ref (ad k0)), (2, .int x2)]) hx hb (dc tbX1_sumOfCosts_k 17 rfl) rfl hl (by decide) rfl (fun ls hl => ?_)
      obtain ⟨x2_27, e5, hf⟩ := bnd_s hf
      refine lv_iinc (v := x2_27) (lv' := [(2, .int x2_27), (1, .int x1_26), (0, .ref (ad k0))]) hx hb (dc tbX1_sumOfCosts_k 18 rfl) hl (k := 2) rfl (ii_e e5 ic_1) (by decide) rfl (fun ls hl => ?_)
      refine lv_goto (tgt := 4) hx hb (dc tbX1_sumOfCosts_k 19 rfl) rfl ?_
      exact hih4 x1_26 x2_27 hf _ _ _ hI (lv_sub hl [2, 1, 0] rfl)
def mX1_sumOfCosts_l4 (k0 : Nat) (M : Mem) : Nat → Int32 → Int32 → Option Int32
  | 0 => fun _ _ => none
  | n + 1 => mX1_sumOfCosts_b4 k0 M (mX1_sumOfCosts_l4 k0 M n)
theorem tX1_sumOfCosts_l4 {p : Program} {l : Launch} {e : Env} {s : State} {m : MethodId} {args : Array Value} {below : List Frame} {meth : Method} {c : Code} {G : GT} {kd : Nat → Nat × Nat} {ad : Nat → Nat} (C : Cx p s m args meth c cX1_sumOfCosts 3 (some .int) RX1 G kd ad) {k0 : Nat} (hk0 : kPart kd k0) {M : Mem} {vo : Int32}   : ∀ (fuel : Nat) (x1 : Int32) (x2 : Int32), mX1_sumOfCosts_l4 k0 M fuel x1 x2 = some vo → At p l e (rmO 0 0 0) s m args below meth c 0 0 (MQ below (Qg G kd ad s.heap.size M (some (.int vo))) args s 0 0 (AS kd ad s.heap.size)) G kd ad 3 4 [(0, .ref (ad k0)), (1, .int x1), (2, .int x2)] [] M := by
  intro fuel
  induction fuel with
  | zero => intro x1 x2 hf; cases hf
  | succ n IH => exact tX1_sumOfCosts_b4 C hk0 IH
def mX1_sumOfCosts (k0 : Nat) (M : Mem) : Option Int32 := mX1_sumOfCosts_l4 k0 M 5000 (0 : Int32) (0 : Int32)
set_option maxHeartbeats 4000000 in
set_option maxRecDepth 100000 in
theorem tX1_sumOfCosts (l : Launch) {G : GT} {kd : Nat → Nat × Nat} {ad : Nat → Nat} {k0 : Nat} (hk0 : kPart kd k0) {M : Mem} {vo : Int32} (hf : mX1_sumOfCosts k0 M = some vo) (n : Nat) : Met l yX1_sumOfCosts (Cond.code yX1_sumOfCosts cX1_sumOfCosts 3 (some .int) :: WA) (rmO 0 0 0) (Pg G kd ad n [.ref (ad k0)] M) (Qg G kd ad n M (some (.int vo))) 0 0 (AS kd ad n) := by
  refine g_body (own := RX1) (by decide) rfl ?_ (Nat.le_of_ble_eq_true rfl)
  intro p e s m args below meth c C _ H locs ls hI hl
  obtain ⟨hx, hb, hml, hr, hown, hts, hlk, hK, hap, hsx⟩ := id C
  have hl : lv_has ls 3 [(0, .ref (ad k0))] := hl
  unfold mX1_sumOfCosts at hf
  refine lv_iconst (v := 0) hx hb (dc tbX1_sumOfCosts_k 0 rfl) ic_0 ?_
  refine lv_istore_n (lv' := [(1, .int (0 : Int32)), (0, .ref (ad k0))]) hx hb (dc tbX1_sumOfCosts_k 1 rfl) rfl hl (by decide) rfl (fun ls hl => ?_)
  refine lv_iconst (v := 0) hx hb (dc tbX1_sumOfCosts_k 2 rfl) ic_0 ?_
  refine lv_istore_n (lv' := [(2, .int (0 : Int32)), (1, .int (0 : Int32)), (0, .ref (ad k0))]) hx hb (dc tbX1_sumOfCosts_k 3 rfl) rfl hl (by decide) rfl (fun ls hl => ?_)
  exact tX1_sumOfCosts_l4 C hk0 5000 (0 : Int32) (0 : Int32) hf _ _ _ hI (lv_sub hl [2, 1, 0] rfl)
theorem cv_X1_sumOfCosts : cvF RX1 yX1_sumOfCosts cX1_sumOfCosts 3 (some .int) 0 := ⟨q_t3_13, q_t3_14, q_t1_3, q_t3_15, by decide +kernel⟩
def mX1_priceBetween_b54 (k0 : Nat) (M : Mem) (x2 : Int32) (x4 : Int32) (x5 : Int32) : Option Int32 := ite2 (x2 = x4) (some x5) (bnd ((x5 + (rd M k0 9))) (fun x5_67 => some x5_67))
set_option maxHeartbeats 4000000 in
set_option maxRecDepth 100000 in
theorem tX1_priceBetween_b54 {p : Program} {l : Launch} {e : Env} {s : State} {m : MethodId} {args : Array Value} {below : List Frame} {meth : Method} {c : Code} {G : GT} {kd : Nat → Nat × Nat} {ad : Nat → Nat} (C : Cx p s m args meth c cX1_priceBetween 6 (some .int) RX1 G kd ad) {k0 : Nat} (hk0 : kPart kd k0) {M : Mem} {vo : Int32}   : ∀ (x2 : Int32) (x4 : Int32) (x5 : Int32), mX1_priceBetween_b54 k0 M x2 x4 x5 = some vo → At p l e (rmO 1 0 0) s m args below meth c 0 0 (MQ below (Qg G kd ad s.heap.size M (some (.int vo))) args s 0 0 (AS kd ad s.heap.size)) G kd ad 6 54 [(0, .ref (ad k0)), (2, .int x2), (4, .int x4), (5, .int x5)] [] M := by
  intro x2 x4 x5 hf H locs ls hI hl
  obtain ⟨hx, hb, hml, hr, hown, hts, hlk, hK, hap, hsx⟩ := id C
  unfold mX1_priceBetween_b54 at hf
  refine lv_iload_n hx hb (dc tbX1_priceBetween_0_k 35 rfl) rfl (lv_at hl 1 rfl) ?_
  refine lv_iload hx hb (dc tbX1_priceBetween_0_k 36 rfl) (lv_at hl 2 rfl) ?_
  refine lv_icmp_eq (tgt := 69) hx hb (dc tbX1_priceBetween_0_k 37 rfl) rfl (fun c10 => ?_) (fun c10 => ?_)
  · have hf := ite_t c10 hf
    refine lv_iload hx hb (dc tbX1_priceBetween_1_k 3 rfl) (lv_at hl 3 rfl) ?_
    cases hf
    exact g_iret hx hb hr hlk hI (dc tbX1_priceBetween_1_k 4 rfl)
  · have hf := ite_f c10 hf
    refine lv_iload hx hb (dc tbX1_priceBetween_0_k 38 rfl) (lv_at hl 3 rfl) ?_
    refine lv_aload_n hx hb (dc tbX1_priceBetween_0_k 39 rfl) rfl (lv_at hl 0 rfl) ?_
    refine gg1_9 hx hb hts hown hK hI hk0.1 q_t1_121 (dc tbX1_priceBetween_1_k 0 rfl) ?_
    refine lv_iadd hx hb (dc tbX1_priceBetween_1_k 1 rfl) ?_
    obtain ⟨x5_67, e11, hf⟩ := bnd_s hf
    refine lv_ei e11 ?_
    refine lv_istore (lv' := [(5, .int x5_67), (0, .ref (ad k0)), (2, .int x2), (4, .int x4)]) hx hb (dc tbX1_priceBetween_1_k 2 rfl) hl (by decide) rfl (fun ls hl => ?_)
    refine lv_iload hx hb (dc tbX1_priceBetween_1_k 3 rfl) (lv_at hl 0 rfl) ?_
    cases hf
    exact g_iret hx hb hr hlk hI (dc tbX1_priceBetween_1_k 4 rfl)
def mX1_priceBetween_b36 (k0 : Nat) (M : Mem) (x1 : Int32) (x2 : Int32) (x3 : Int32) (x4 : Int32) (x5 : Int32) : Option Int32 := ite2 ((x1 &&& (1 : Int32)) = (x3 &&& (1 : Int32))) (mX1_priceBetween_b54 k0 M x2 x4 x5) (bnd ((x5 + (rd M k0 8))) (fun x5_52 => mX1_priceBetween_b54 k0 M x2 x4 x5_52))
set_option maxHeartbeats 4000000 in
set_option maxRecDepth 100000 in
theorem tX1_priceBetween_b36 {p : Program} {l : Launch} {e : Env} {s : State} {m : MethodId} {args : Array Value} {below : List Frame} {meth : Method} {c : Code} {G : GT} {kd : Nat → Nat × Nat} {ad : Nat → Nat} (C : Cx p s m args meth c cX1_priceBetween 6 (some .int) RX1 G kd ad) {k0 : Nat} (hk0 : kPart kd k0) {M : Mem} {vo : Int32}   : ∀ (x1 : Int32) (x2 : Int32) (x3 : Int32) (x4 : Int32) (x5 : Int32), mX1_priceBetween_b36 k0 M x1 x2 x3 x4 x5 = some vo → At p l e (rmO 1 0 0) s m args below meth c 0 0 (MQ below (Qg G kd ad s.heap.size M (some (.int vo))) args s 0 0 (AS kd ad s.heap.size)) G kd ad 6 36 [(0, .ref (ad k0)), (1, .int x1), (2, .int x2), (3, .int x3), (4, .int x4), (5, .int x5)] [] M := by
  intro x1 x2 x3 x4 x5 hf H locs ls hI hl
  obtain ⟨hx, hb, hml, hr, hown, hts, hlk, hK, hap, hsx⟩ := id C
  unfold mX1_priceBetween_b36 at hf
  refine lv_iload_n hx hb (dc tbX1_priceBetween_0_k 23 rfl) rfl (lv_at hl 1 rfl) ?_
  refine lv_iconst (v := 1) hx hb (dc tbX1_priceBetween_0_k 24 rfl) ic_1 ?_
  refine lv_iand hx hb (dc tbX1_priceBetween_0_k 25 rfl) ?_
  refine lv_iload_n hx hb (dc tbX1_priceBetween_0_k 26 rfl) rfl (lv_at hl 3 rfl) ?_
  refine lv_iconst (v := 1) hx hb (dc tbX1_priceBetween_0_k 27 rfl) ic_1 ?_
  refine lv_iand hx hb (dc tbX1_priceBetween_0_k 28 rfl) ?_
  refine lv_icmp_eq (tgt := 54) hx hb (dc tbX1_priceBetween_0_k 29 rfl) rfl (fun c9 => ?_) (fun c9 => ?_)
  · have hf := ite_t c9 hf
    exact tX1_priceBetween_b54 C hk0 x2 x4 x5 hf _ _ _ hI (lv_sub hl [0, 2, 4, 5] rfl)
  · have hf := ite_f c9 hf
    refine lv_iload hx hb (dc tbX1_priceBetween_0_k 30 rfl) (lv_at hl 5 rfl) ?_
    refine lv_aload_n hx hb (dc tbX1_priceBetween_0_k 31 rfl) rfl (lv_at hl 0 rfl) ?_
    refine gg1_8 hx hb hts hown hK hI hk0.1 q_t1_120 (dc tbX1_priceBetween_0_k 32 rfl) ?_
    refine lv_iadd hx hb (dc tbX1_priceBetween_0_k 33 rfl) ?_
    obtain ⟨x5_52, e12, hf⟩ := bnd_s hf
    refine lv_ei e12 ?_
    refine lv_istore (lv' := [(5, .int x5_52), (0, .ref (ad k0)), (1, .int x1), (2, .int x2), (3, .int x3), (4, .int x4)]) hx hb (dc tbX1_priceBetween_0_k 34 rfl) hl (by decide) rfl (fun ls hl => ?_)
    exact tX1_priceBetween_b54 C hk0 x2 x4 x5_52 hf _ _ _ hI (lv_sub hl [1, 3, 5, 0] rfl)
def mX1_priceBetween (k0 : Nat) (x1 : Int32) (x2 : Int32) (x3 : Int32) (x4 : Int32) (M : Mem) : Option Int32 := ite2 (x1 = (-1 : Int32)) (some (0 : Int32)) (cap (mX1_goesUp k0 (x1 >>> ((1 : Int32) &&& 31)) M) (fun r3 => cap (mX1_goesUp k0 (x3 >>> ((1 : Int32) &&& 31)) M) (fun r6 => ite2 (r3 = r6) (mX1_priceBetween_b36 k0 M x1 x2 x3 x4 (0 : Int32)) (bnd (((0 : Int32) + (rd M k0 7))) (fun x5_34 => mX1_priceBetween_b36 k0 M x1 x2 x3 x4 x5_34)))))
set_option maxHeartbeats 4000000 in
set_option maxRecDepth 100000 in
theorem tX1_priceBetween (l : Launch) {G : GT} {kd : Nat → Nat × Nat} {ad : Nat → Nat} {k0 : Nat} (hk0 : kPart kd k0) {x1 : Int32} {x2 : Int32} {x3 : Int32} {x4 : Int32} {M : Mem} {vo : Int32} (hf : mX1_priceBetween k0 x1 x2 x3 x4 M = some vo) (n : Nat) : Met l yX1_priceBetween (Cond.code yX1_priceBetween cX1_priceBetween 6 (some .int) :: WA) (rmO 1 0 0) (Pg G kd ad n [.ref (ad k0), .int x1, .int x2, .int x3, .int x4] M) (Qg G kd ad n M (some (.int vo))) 0 0 (AS kd ad n) := by
  refine g_body (own := RX1) (by decide) rfl ?_ (Nat.le_of_ble_eq_true rfl)
  intro p e s m args below meth c C _ H locs ls hI hl
  obtain ⟨hx, hb, hml, hr, hown, hts, hlk, hK, hap, hsx⟩ := id C
  have hl : lv_has ls 6 [(0, .ref (ad k0)), (1, .int x1), (2, .int x2), (3, .int x3), (4, .int x4)] := hl
  unfold mX1_priceBetween at hf
  refine lv_iload_n hx hb (dc tbX1_priceBetween_0_k 0 rfl) rfl (lv_at hl 1 rfl) ?_
  refine lv_iconst (v := -1) hx hb (dc tbX1_priceBetween_0_k 1 rfl) ic_m1 ?_
  refine lv_icmp_ne (tgt := 7) hx hb (dc tbX1_priceBetween_0_k 2 rfl) rfl (fun c1 => ?_) (fun c1 => ?_)
  · have hf := ite_f c1 hf
    refine lv_iconst (v := 0) hx hb (dc tbX1_priceBetween_0_k 5 rfl) ic_0 ?_
    refine lv_istore (lv' := [(5, .int (0 : Int32)), (0, .ref (ad k0)), (1, .int x1), (2, .int x2), (3, .int x3), (4, .int x4)]) hx hb (dc tbX1_priceBetween_0_k 6 rfl) hl (by decide) rfl (fun ls hl => ?_)
    refine lv_aload_n hx hb (dc tbX1_priceBetween_0_k 7 rfl) rfl (lv_at hl 1 rfl) ?_
    refine lv_iload_n hx hb (dc tbX1_priceBetween_0_k 8 rfl) rfl (lv_at hl 2 rfl) ?_
    refine lv_iconst (v := 1) hx hb (dc tbX1_priceBetween_0_k 9 rfl) ic_1 ?_
    refine lv_ishr hx hb (dc tbX1_priceBetween_0_k 10 rfl) ?_
    obtain ⟨r3, q2, hf⟩ := cap_s hf
    refine g_callVi hx hb hml hown hts hK hap hsx hI (tX1_goesUp l hk0 q2 H.size) cv_X1_goesUp q_t2_232 rfl rfl ⟨Nat.le_of_ble_eq_true rfl, Nat.le_of_ble_eq_true rfl⟩ hk0.1 (by simp) rfl rfl rfl hl.1 rfl (Nat.le_of_ble_eq_true rfl) (dc tbX1_priceBetween_0_k 11 rfl) ⟨Nat.le_of_ble_eq_true rfl, Nat.le_of_ble_eq_true rfl⟩ (fun H locs hI => ?_)
    refine lv_aload_n hx hb (dc tbX1_priceBetween_0_k 12 rfl) rfl (lv_at hl 1 rfl) ?_
    refine lv_iload_n hx hb (dc tbX1_priceBetween_0_k 13 rfl) rfl (lv_at hl 4 rfl) ?_
    refine lv_iconst (v := 1) hx hb (dc tbX1_priceBetween_0_k 14 rfl) ic_1 ?_
    refine lv_ishr hx hb (dc tbX1_priceBetween_0_k 15 rfl) ?_
    obtain ⟨r6, q5, hf⟩ := cap_s hf
    refine g_callVi hx hb hml hown hts hK hap hsx hI (tX1_goesUp l hk0 q5 H.size) cv_X1_goesUp q_t2_232 rfl rfl ⟨Nat.le_of_ble_eq_true rfl, Nat.le_of_ble_eq_true rfl⟩ hk0.1 (by simp) rfl rfl rfl hl.1 rfl (Nat.le_of_ble_eq_true rfl) (dc tbX1_priceBetween_0_k 16 rfl) ⟨Nat.le_of_ble_eq_true rfl, Nat.le_of_ble_eq_true rfl⟩ (fun H locs hI => ?_)
    refine lv_icmp_eq (tgt := 36) hx hb (dc tbX1_priceBetween_0_k 17 rfl) rfl (fun c8 => ?_) (fun c8 => ?_)
    · have hf := ite_t c8 hf
      exact tX1_priceBetween_b36 C hk0 x1 x2 x3 x4 (0 : Int32) hf _ _ _ hI (lv_sub hl [1, 2, 3, 4, 5, 0] rfl)
    · have hf := ite_f c8 hf
      refine lv_iload hx hb (dc tbX1_priceBetween_0_k 18 rfl) (lv_at hl 0 rfl) ?_
      refine lv_aload_n hx hb (dc tbX1_priceBetween_0_k 19 rfl) rfl (lv_at hl 1 rfl) ?_
      refine gg1_7 hx hb hts hown hK hI hk0.1 q_t1_118 (dc tbX1_priceBetween_0_k 20 rfl) ?_
      refine lv_iadd hx hb (dc tbX1_priceBetween_0_k 21 rfl) ?_
      obtain ⟨x5_34, e13, hf⟩ := bnd_s hf
      refine lv_ei e13 ?_
      refine lv_istore (lv' := [(5, .int x5_34), (0, .ref (ad k0)), (1, .int x1), (2, .int x2), (3, .int x3), (4, .int x4)]) hx hb (dc tbX1_priceBetween_0_k 22 rfl) hl (by decide) rfl (fun ls hl => ?_)
      exact tX1_priceBetween_b36 C hk0 x1 x2 x3 x4 x5_34 hf _ _ _ hI (lv_sub hl [1, 2, 3, 4, 5, 0] rfl)
  · have hf := ite_t c1 hf
    refine lv_iconst (v := 0) hx hb (dc tbX1_priceBetween_0_k 3 rfl) ic_0 ?_
    cases hf
    exact g_iret hx hb hr hlk hI (dc tbX1_priceBetween_0_k 4 rfl)
theorem cv_X1_priceBetween : cvF RX1 yX1_priceBetween cX1_priceBetween 6 (some .int) 4 := ⟨q_t3_126, q_t3_127, q_t1_3, q_t3_128, by decide +kernel⟩
def mX1_bendsLike_b65 (k0 : Nat) (k1 : Nat) (M : Mem) (ih65 : Int32 → Option Int32) (x2 : Int32) : Option Int32 := ite2 ((10 : Int32) ≤ x2) (some (1 : Int32)) (chk (okb x2 10) (chk (okb x2 10) (ite2 ((rd M (k0 + 2) (x2).toNatClampNeg) = (rd M (k1 + 2) (x2).toNatClampNeg)) (bnd (x2 + (1 : Int32)) (fun x2_88 => ih65 x2_88)) (some (0 : Int32)))))
set_option maxHeartbeats 4000000 in
set_option maxRecDepth 100000 in
theorem tX1_bendsLike_b65 {p : Program} {l : Launch} {e : Env} {s : State} {m : MethodId} {args : Array Value} {below : List Frame} {meth : Method} {c : Code} {G : GT} {kd : Nat → Nat × Nat} {ad : Nat → Nat} (C : Cx p s m args meth c cX1_bendsLike 3 (some .boolean) RX1 G kd ad) {k0 : Nat} {k1 : Nat} (hk0 : kPart kd k0) (hk1 : kPart kd k1) {M : Mem} {vo : Int32} {ih65 : Int32 → Option Int32} (hih65 : ∀ (x2 : Int32), ih65 x2 = some vo → At p l e (rmO 0 0 0) s m args below meth c 0 0 (MQ below (Qg G kd ad s.heap.size M (some (.int vo))) args s 0 0 (AS kd ad s.heap.size)) G kd ad 3 65 [(0, .ref (ad k0)), (1, .ref (ad k1)), (2, .int x2)] [] M) : ∀ (x2 : Int32), mX1_bendsLike_b65 k0 k1 M ih65 x2 = some vo → At p l e (rmO 0 0 0) s m args below meth c 0 0 (MQ below (Qg G kd ad s.heap.size M (some (.int vo))) args s 0 0 (AS kd ad s.heap.size)) G kd ad 3 65 [(0, .ref (ad k0)), (1, .ref (ad k1)), (2, .int x2)] [] M := by
  intro x2 hf H locs ls hI hl
  obtain ⟨hx, hb, hml, hr, hown, hts, hlk, hK, hap, hsx⟩ := id C
  unfold mX1_bendsLike_b65 at hf
  refine lv_iload_n hx hb (dc tbX1_bendsLike_0_k 36 rfl) rfl (lv_at hl 2 rfl) ?_
  refine lv_bipush (v := 10) hx hb (dc tbX1_bendsLike_0_k 37 rfl) bp_10 ?_
  refine lv_icmp_ge (tgt := 94) hx hb (dc tbX1_bendsLike_0_k 38 rfl) rfl (fun c4 => ?_) (fun c4 => ?_)
  · have hf := ite_t c4 hf
    refine lv_iconst (v := 1) hx hb (dc tbX1_bendsLike_1_k 12 rfl) ic_1 ?_
    cases hf
    exact g_zret hx hb hr hlk hI rfl (dc tbX1_bendsLike_1_k 13 rfl)
  · have hf := ite_f c4 hf
    refine lv_aload_n hx hb (dc tbX1_bendsLike_0_k 39 rfl) rfl (lv_at hl 0 rfl) ?_
    refine gg1_6 hx hb hts hown hK hI hk0.1 q_t1_115 (dc tbX1_bendsLike_1_k 0 rfl) ?_
    refine lv_iload_n hx hb (dc tbX1_bendsLike_1_k 1 rfl) rfl (lv_at hl 2 rfl) ?_
    obtain ⟨h5, hf⟩ := chk_s hf
    refine g_iald hx hb hK hI hk0.2.2.1 (okb_in h5) (dc tbX1_bendsLike_1_k 2 rfl) ?_
    refine lv_aload_n hx hb (dc tbX1_bendsLike_1_k 3 rfl) rfl (lv_at hl 1 rfl) ?_
    refine gg1_6 hx hb hts hown hK hI hk1.1 q_t1_115 (dc tbX1_bendsLike_1_k 4 rfl) ?_
    refine lv_iload_n hx hb (dc tbX1_bendsLike_1_k 5 rfl) rfl (lv_at hl 2 rfl) ?_
    obtain ⟨h6, hf⟩ := chk_s hf
    refine g_iald hx hb hK hI hk1.2.2.1 (okb_in h6) (dc tbX1_bendsLike_1_k 6 rfl) ?_
    refine lv_icmp_eq (tgt := 88) hx hb (dc tbX1_bendsLike_1_k 7 rfl) rfl (fun c7 => ?_) (fun c7 => ?_)
    · have hf := ite_t c7 hf
      obtain ⟨x2_88, e8, hf⟩ := bnd_s hf
      refine lv_iinc (v := x2_88) (lv' := [(2, .int x2_88), (0, .ref (ad k0)), (1, .ref (ad k1))]) hx hb (dc tbX1_bendsLike_1_k 10 rfl) hl (k := 2) rfl (ii_e e8 ic_1) (by decide) rfl (fun ls hl => ?_)
      refine lv_goto (tgt := 65) hx hb (dc tbX1_bendsLike_1_k 11 rfl) rfl ?_
      exact hih65 x2_88 hf _ _ _ hI (lv_sub hl [1, 2, 0] rfl)
    · have hf := ite_f c7 hf
      refine lv_iconst (v := 0) hx hb (dc tbX1_bendsLike_1_k 8 rfl) ic_0 ?_
      cases hf
      exact g_zret hx hb hr hlk hI rfl (dc tbX1_bendsLike_1_k 9 rfl)
def mX1_bendsLike_l65 (k0 : Nat) (k1 : Nat) (M : Mem) : Nat → Int32 → Option Int32
  | 0 => fun _ => none
  | n + 1 => mX1_bendsLike_b65 k0 k1 M (mX1_bendsLike_l65 k0 k1 M n)
theorem tX1_bendsLike_l65 {p : Program} {l : Launch} {e : Env} {s : State} {m : MethodId} {args : Array Value} {below : List Frame} {meth : Method} {c : Code} {G : GT} {kd : Nat → Nat × Nat} {ad : Nat → Nat} (C : Cx p s m args meth c cX1_bendsLike 3 (some .boolean) RX1 G kd ad) {k0 : Nat} {k1 : Nat} (hk0 : kPart kd k0) (hk1 : kPart kd k1) {M : Mem} {vo : Int32}   : ∀ (fuel : Nat) (x2 : Int32), mX1_bendsLike_l65 k0 k1 M fuel x2 = some vo → At p l e (rmO 0 0 0) s m args below meth c 0 0 (MQ below (Qg G kd ad s.heap.size M (some (.int vo))) args s 0 0 (AS kd ad s.heap.size)) G kd ad 3 65 [(0, .ref (ad k0)), (1, .ref (ad k1)), (2, .int x2)] [] M := by
  intro fuel
  induction fuel with
  | zero => intro x2 hf; cases hf
  | succ n IH => exact tX1_bendsLike_b65 C hk0 hk1 IH
def mX1_bendsLike_b63 (k0 : Nat) (k1 : Nat) (M : Mem) : Option Int32 := mX1_bendsLike_l65 k0 k1 M 5000 (0 : Int32)
set_option maxHeartbeats 4000000 in
set_option maxRecDepth 100000 in
theorem tX1_bendsLike_b63 {p : Program} {l : Launch} {e : Env} {s : State} {m : MethodId} {args : Array Value} {below : List Frame} {meth : Method} {c : Code} {G : GT} {kd : Nat → Nat × Nat} {ad : Nat → Nat} (C : Cx p s m args meth c cX1_bendsLike 3 (some .boolean) RX1 G kd ad) {k0 : Nat} {k1 : Nat} (hk0 : kPart kd k0) (hk1 : kPart kd k1) {M : Mem} {vo : Int32}   : mX1_bendsLike_b63 k0 k1 M = some vo → At p l e (rmO 0 0 0) s m args below meth c 0 0 (MQ below (Qg G kd ad s.heap.size M (some (.int vo))) args s 0 0 (AS kd ad s.heap.size)) G kd ad 3 63 [(0, .ref (ad k0)), (1, .ref (ad k1))] [] M := by
  intro hf H locs ls hI hl
  obtain ⟨hx, hb, hml, hr, hown, hts, hlk, hK, hap, hsx⟩ := id C
  unfold mX1_bendsLike_b63 at hf
  refine lv_iconst (v := 0) hx hb (dc tbX1_bendsLike_0_k 34 rfl) ic_0 ?_
  refine lv_istore_n (lv' := [(2, .int (0 : Int32)), (0, .ref (ad k0)), (1, .ref (ad k1))]) hx hb (dc tbX1_bendsLike_0_k 35 rfl) rfl hl (by decide) rfl (fun ls hl => ?_)
  exact tX1_bendsLike_l65 C hk0 hk1 5000 (0 : Int32) hf _ _ _ hI (lv_sub hl [1, 2, 0] rfl)
def mX1_bendsLike_b26 (k0 : Nat) (k1 : Nat) (M : Mem) (ih26 : Int32 → Option Int32) (x2 : Int32) : Option Int32 := ite2 ((rd M k0 0) ≤ x2) (mX1_bendsLike_b63 k0 k1 M) (ite2 ((9 : Int32) ≤ x2) (mX1_bendsLike_b63 k0 k1 M) (chk (okb x2 9) (chk (okb x2 9) (ite2 ((rd M (k0 + 1) (x2).toNatClampNeg) = (rd M (k1 + 1) (x2).toNatClampNeg)) (bnd (x2 + (1 : Int32)) (fun x2_57 => ih26 x2_57)) (some (0 : Int32))))))
set_option maxHeartbeats 4000000 in
set_option maxRecDepth 100000 in
theorem tX1_bendsLike_b26 {p : Program} {l : Launch} {e : Env} {s : State} {m : MethodId} {args : Array Value} {below : List Frame} {meth : Method} {c : Code} {G : GT} {kd : Nat → Nat × Nat} {ad : Nat → Nat} (C : Cx p s m args meth c cX1_bendsLike 3 (some .boolean) RX1 G kd ad) {k0 : Nat} {k1 : Nat} (hk0 : kPart kd k0) (hk1 : kPart kd k1) {M : Mem} {vo : Int32} {ih26 : Int32 → Option Int32} (hih26 : ∀ (x2 : Int32), ih26 x2 = some vo → At p l e (rmO 0 0 0) s m args below meth c 0 0 (MQ below (Qg G kd ad s.heap.size M (some (.int vo))) args s 0 0 (AS kd ad s.heap.size)) G kd ad 3 26 [(0, .ref (ad k0)), (1, .ref (ad k1)), (2, .int x2)] [] M) : ∀ (x2 : Int32), mX1_bendsLike_b26 k0 k1 M ih26 x2 = some vo → At p l e (rmO 0 0 0) s m args below meth c 0 0 (MQ below (Qg G kd ad s.heap.size M (some (.int vo))) args s 0 0 (AS kd ad s.heap.size)) G kd ad 3 26 [(0, .ref (ad k0)), (1, .ref (ad k1)), (2, .int x2)] [] M := by
  intro x2 hf H locs ls hI hl
  obtain ⟨hx, hb, hml, hr, hown, hts, hlk, hK, hap, hsx⟩ := id C
  unfold mX1_bendsLike_b26 at hf
  refine lv_iload_n hx hb (dc tbX1_bendsLike_0_k 14 rfl) rfl (lv_at hl 2 rfl) ?_
  refine lv_aload_n hx hb (dc tbX1_bendsLike_0_k 15 rfl) rfl (lv_at hl 0 rfl) ?_
  refine gg1_0 hx hb hts hown hK hI hk0.1 q_t1_101 (dc tbX1_bendsLike_0_k 16 rfl) ?_
  refine lv_icmp_ge (tgt := 63) hx hb (dc tbX1_bendsLike_0_k 17 rfl) rfl (fun c3 => ?_) (fun c3 => ?_)
  · have hf := ite_t c3 hf
    exact tX1_bendsLike_b63 C hk0 hk1 hf _ _ _ hI (lv_sub hl [0, 1] rfl)
  · have hf := ite_f c3 hf
    refine lv_iload_n hx hb (dc tbX1_bendsLike_0_k 18 rfl) rfl (lv_at hl 2 rfl) ?_
    refine lv_bipush (v := 9) hx hb (dc tbX1_bendsLike_0_k 19 rfl) bp_9 ?_
    refine lv_icmp_ge (tgt := 63) hx hb (dc tbX1_bendsLike_0_k 20 rfl) rfl (fun c9 => ?_) (fun c9 => ?_)
    · have hf := ite_t c9 hf
      exact tX1_bendsLike_b63 C hk0 hk1 hf _ _ _ hI (lv_sub hl [0, 1] rfl)
    · have hf := ite_f c9 hf
      refine lv_aload_n hx hb (dc tbX1_bendsLike_0_k 21 rfl) rfl (lv_at hl 0 rfl) ?_
      refine gg1_1 hx hb hts hown hK hI hk0.1 q_t1_105 (dc tbX1_bendsLike_0_k 22 rfl) ?_
      refine lv_iload_n hx hb (dc tbX1_bendsLike_0_k 23 rfl) rfl (lv_at hl 2 rfl) ?_
      obtain ⟨h10, hf⟩ := chk_s hf
      refine g_iald hx hb hK hI hk0.2.1 (okb_in h10) (dc tbX1_bendsLike_0_k 24 rfl) ?_
      refine lv_aload_n hx hb (dc tbX1_bendsLike_0_k 25 rfl) rfl (lv_at hl 1 rfl) ?_
      refine gg1_1 hx hb hts hown hK hI hk1.1 q_t1_105 (dc tbX1_bendsLike_0_k 26 rfl) ?_
      refine lv_iload_n hx hb (dc tbX1_bendsLike_0_k 27 rfl) rfl (lv_at hl 2 rfl) ?_
      obtain ⟨h11, hf⟩ := chk_s hf
      refine g_iald hx hb hK hI hk1.2.1 (okb_in h11) (dc tbX1_bendsLike_0_k 28 rfl) ?_
      refine lv_icmp_eq (tgt := 57) hx hb (dc tbX1_bendsLike_0_k 29 rfl) rfl (fun c12 => ?_) (fun c12 => ?_)
      · have hf := ite_t c12 hf
        obtain ⟨x2_57, e13, hf⟩ := bnd_s hf
        refine lv_iinc (v := x2_57) (lv' := [(2, .int x2_57), (0, .ref (ad k0)), (1, .ref (ad k1))]) hx hb (dc tbX1_bendsLike_0_k 32 rfl) hl (k := 2) rfl (ii_e e13 ic_1) (by decide) rfl (fun ls hl => ?_)
        refine lv_goto (tgt := 26) hx hb (dc tbX1_bendsLike_0_k 33 rfl) rfl ?_
        exact hih26 x2_57 hf _ _ _ hI (lv_sub hl [1, 2, 0] rfl)
      · have hf := ite_f c12 hf
        refine lv_iconst (v := 0) hx hb (dc tbX1_bendsLike_0_k 30 rfl) ic_0 ?_
        cases hf
        exact g_zret hx hb hr hlk hI rfl (dc tbX1_bendsLike_0_k 31 rfl)
def mX1_bendsLike_l26 (k0 : Nat) (k1 : Nat) (M : Mem) : Nat → Int32 → Option Int32
  | 0 => fun _ => none
  | n + 1 => mX1_bendsLike_b26 k0 k1 M (mX1_bendsLike_l26 k0 k1 M n)
theorem tX1_bendsLike_l26 {p : Program} {l : Launch} {e : Env} {s : State} {m : MethodId} {args : Array Value} {below : List Frame} {meth : Method} {c : Code} {G : GT} {kd : Nat → Nat × Nat} {ad : Nat → Nat} (C : Cx p s m args meth c cX1_bendsLike 3 (some .boolean) RX1 G kd ad) {k0 : Nat} {k1 : Nat} (hk0 : kPart kd k0) (hk1 : kPart kd k1) {M : Mem} {vo : Int32}   : ∀ (fuel : Nat) (x2 : Int32), mX1_bendsLike_l26 k0 k1 M fuel x2 = some vo → At p l e (rmO 0 0 0) s m args below meth c 0 0 (MQ below (Qg G kd ad s.heap.size M (some (.int vo))) args s 0 0 (AS kd ad s.heap.size)) G kd ad 3 26 [(0, .ref (ad k0)), (1, .ref (ad k1)), (2, .int x2)] [] M := by
  intro fuel
  induction fuel with
  | zero => intro x2 hf; cases hf
  | succ n IH => exact tX1_bendsLike_b26 C hk0 hk1 IH
def mX1_bendsLike (k0 : Nat) (k1 : Nat) (M : Mem) : Option Int32 := ite2 ((rd M k0 0) = (rd M k1 0)) (ite2 ((rd M k0 2) = (rd M k1 2)) (mX1_bendsLike_l26 k0 k1 M 5000 (0 : Int32)) (some (0 : Int32))) (some (0 : Int32))
set_option maxHeartbeats 4000000 in
set_option maxRecDepth 100000 in
theorem tX1_bendsLike (l : Launch) {G : GT} {kd : Nat → Nat × Nat} {ad : Nat → Nat} {k0 : Nat} {k1 : Nat} (hk0 : kPart kd k0) (hk1 : kPart kd k1) {M : Mem} {vo : Int32} (hf : mX1_bendsLike k0 k1 M = some vo) (n : Nat) : Met l yX1_bendsLike (Cond.code yX1_bendsLike cX1_bendsLike 3 (some .boolean) :: WA) (rmO 0 0 0) (Pg G kd ad n [.ref (ad k0), .ref (ad k1)] M) (Qg G kd ad n M (some (.int vo))) 0 0 (AS kd ad n) := by
  refine g_body (own := RX1) (by decide) rfl ?_ (Nat.le_of_ble_eq_true rfl)
  intro p e s m args below meth c C _ H locs ls hI hl
  obtain ⟨hx, hb, hml, hr, hown, hts, hlk, hK, hap, hsx⟩ := id C
  have hl : lv_has ls 3 [(0, .ref (ad k0)), (1, .ref (ad k1))] := hl
  unfold mX1_bendsLike at hf
  refine lv_aload_n hx hb (dc tbX1_bendsLike_0_k 0 rfl) rfl (lv_at hl 0 rfl) ?_
  refine gg1_0 hx hb hts hown hK hI hk0.1 q_t1_101 (dc tbX1_bendsLike_0_k 1 rfl) ?_
  refine lv_aload_n hx hb (dc tbX1_bendsLike_0_k 2 rfl) rfl (lv_at hl 1 rfl) ?_
  refine gg1_0 hx hb hts hown hK hI hk1.1 q_t1_101 (dc tbX1_bendsLike_0_k 3 rfl) ?_
  refine lv_icmp_ne (tgt := 22) hx hb (dc tbX1_bendsLike_0_k 4 rfl) rfl (fun c1 => ?_) (fun c1 => ?_)
  · have hf := ite_f c1 hf
    refine lv_iconst (v := 0) hx hb (dc tbX1_bendsLike_0_k 10 rfl) ic_0 ?_
    cases hf
    exact g_zret hx hb hr hlk hI rfl (dc tbX1_bendsLike_0_k 11 rfl)
  · have hf := ite_t c1 hf
    refine lv_aload_n hx hb (dc tbX1_bendsLike_0_k 5 rfl) rfl (lv_at hl 0 rfl) ?_
    refine gg1_2 hx hb hts hown hK hI hk0.1 q_t1_108 (dc tbX1_bendsLike_0_k 6 rfl) ?_
    refine lv_aload_n hx hb (dc tbX1_bendsLike_0_k 7 rfl) rfl (lv_at hl 1 rfl) ?_
    refine gg1_2 hx hb hts hown hK hI hk1.1 q_t1_108 (dc tbX1_bendsLike_0_k 8 rfl) ?_
    refine lv_icmp_eq (tgt := 24) hx hb (dc tbX1_bendsLike_0_k 9 rfl) rfl (fun c2 => ?_) (fun c2 => ?_)
    · have hf := ite_t c2 hf
      refine lv_iconst (v := 0) hx hb (dc tbX1_bendsLike_0_k 12 rfl) ic_0 ?_
      refine lv_istore_n (lv' := [(2, .int (0 : Int32)), (0, .ref (ad k0)), (1, .ref (ad k1))]) hx hb (dc tbX1_bendsLike_0_k 13 rfl) rfl hl (by decide) rfl (fun ls hl => ?_)
      exact tX1_bendsLike_l26 C hk0 hk1 5000 (0 : Int32) hf _ _ _ hI (lv_sub hl [1, 2, 0] rfl)
    · have hf := ite_f c2 hf
      refine lv_iconst (v := 0) hx hb (dc tbX1_bendsLike_0_k 10 rfl) ic_0 ?_
      cases hf
      exact g_zret hx hb hr hlk hI rfl (dc tbX1_bendsLike_0_k 11 rfl)
theorem cv_X1_bendsLike : cvF RX1 yX1_bendsLike cX1_bendsLike 3 (some .boolean) 1 := ⟨q_t3_64, q_t3_65, q_t1_3, q_t3_66, by decide +kernel⟩
def mX1_goesOnLike (k0 : Nat) (k1 : Nat) (M : Mem) : Option Int32 := ite2 ((rd M k0 13) = (rd M k1 13)) (cap (mX1_lastCode k0 M) (fun r3 => cap (mX1_lastCode k1 M) (fun r6 => ite2 (r3 = r6) (cap (mX1_lastGauge k0 M) (fun r10 => cap (mX1_lastGauge k1 M) (fun r13 => ite2 (r10 = r13) (ite2 ((rd M k0 7) = (rd M k1 7)) (ite2 ((rd M k0 8) = (rd M k1 8)) (ite2 ((rd M k0 9) = (rd M k1 9)) (some (1 : Int32)) (some (0 : Int32))) (some (0 : Int32))) (some (0 : Int32))) (some (0 : Int32))))) (some (0 : Int32))))) (some (0 : Int32))
set_option maxHeartbeats 4000000 in
set_option maxRecDepth 100000 in
theorem tX1_goesOnLike (l : Launch) {G : GT} {kd : Nat → Nat × Nat} {ad : Nat → Nat} {k0 : Nat} {k1 : Nat} (hk0 : kPart kd k0) (hk1 : kPart kd k1) {M : Mem} {vo : Int32} (hf : mX1_goesOnLike k0 k1 M = some vo) (n : Nat) : Met l yX1_goesOnLike (Cond.code yX1_goesOnLike cX1_goesOnLike 2 (some .boolean) :: WA) (rmO 1 0 0) (Pg G kd ad n [.ref (ad k0), .ref (ad k1)] M) (Qg G kd ad n M (some (.int vo))) 0 0 (AS kd ad n) := by
  refine g_body (own := RX1) (by decide) rfl ?_ (Nat.le_of_ble_eq_true rfl)
  intro p e s m args below meth c C _ H locs ls hI hl
  obtain ⟨hx, hb, hml, hr, hown, hts, hlk, hK, hap, hsx⟩ := id C
  have hl : lv_has ls 2 [(0, .ref (ad k0)), (1, .ref (ad k1))] := hl
  unfold mX1_goesOnLike at hf
  refine lv_aload_n hx hb (dc tbX1_goesOnLike_k 0 rfl) rfl (lv_at hl 0 rfl) ?_
  refine gg1_13 hx hb hts hown hK hI hk0.1 q_t1_126 (dc tbX1_goesOnLike_k 1 rfl) ?_
  refine lv_aload_n hx hb (dc tbX1_goesOnLike_k 2 rfl) rfl (lv_at hl 1 rfl) ?_
  refine gg1_13 hx hb hts hown hK hI hk1.1 q_t1_126 (dc tbX1_goesOnLike_k 3 rfl) ?_
  refine lv_icmp_ne (tgt := 70) hx hb (dc tbX1_goesOnLike_k 4 rfl) rfl (fun c1 => ?_) (fun c1 => ?_)
  · have hf := ite_f c1 hf
    refine lv_iconst (v := 0) hx hb (dc tbX1_goesOnLike_k 32 rfl) ic_0 ?_
    cases hf
    exact g_zret hx hb hr hlk hI rfl (dc tbX1_goesOnLike_k 33 rfl)
  · have hf := ite_t c1 hf
    refine lv_aload_n hx hb (dc tbX1_goesOnLike_k 5 rfl) rfl (lv_at hl 0 rfl) ?_
    obtain ⟨r3, q2, hf⟩ := cap_s hf
    refine g_callVi hx hb hml hown hts hK hap hsx hI (tX1_lastCode l hk0 q2 H.size) cv_X1_lastCode q_t3_71 rfl rfl ⟨Nat.le_of_ble_eq_true rfl, Nat.le_of_ble_eq_true rfl⟩ hk0.1 (by simp) rfl rfl rfl hl.1 rfl (Nat.le_of_ble_eq_true rfl) (dc tbX1_goesOnLike_k 6 rfl) ⟨Nat.le_of_ble_eq_true rfl, Nat.le_of_ble_eq_true rfl⟩ (fun H locs hI => ?_)
    refine lv_aload_n hx hb (dc tbX1_goesOnLike_k 7 rfl) rfl (lv_at hl 1 rfl) ?_
    obtain ⟨r6, q5, hf⟩ := cap_s hf
    refine g_callVi hx hb hml hown hts hK hap hsx hI (tX1_lastCode l hk1 q5 H.size) cv_X1_lastCode q_t3_71 rfl rfl ⟨Nat.le_of_ble_eq_true rfl, Nat.le_of_ble_eq_true rfl⟩ hk1.1 (by simp) rfl rfl rfl hl.1 rfl (Nat.le_of_ble_eq_true rfl) (dc tbX1_goesOnLike_k 8 rfl) ⟨Nat.le_of_ble_eq_true rfl, Nat.le_of_ble_eq_true rfl⟩ (fun H locs hI => ?_)
    refine lv_icmp_ne (tgt := 70) hx hb (dc tbX1_goesOnLike_k 9 rfl) rfl (fun c8 => ?_) (fun c8 => ?_)
    · have hf := ite_f c8 hf
      refine lv_iconst (v := 0) hx hb (dc tbX1_goesOnLike_k 32 rfl) ic_0 ?_
      cases hf
      exact g_zret hx hb hr hlk hI rfl (dc tbX1_goesOnLike_k 33 rfl)
    · have hf := ite_t c8 hf
      refine lv_aload_n hx hb (dc tbX1_goesOnLike_k 10 rfl) rfl (lv_at hl 0 rfl) ?_
      obtain ⟨r10, q9, hf⟩ := cap_s hf
      refine g_callVi hx hb hml hown hts hK hap hsx hI (tX1_lastGauge l hk0 q9 H.size) cv_X1_lastGauge q_t3_75 rfl rfl ⟨Nat.le_of_ble_eq_true rfl, Nat.le_of_ble_eq_true rfl⟩ hk0.1 (by simp) rfl rfl rfl hl.1 rfl (Nat.le_of_ble_eq_true rfl) (dc tbX1_goesOnLike_k 11 rfl) ⟨Nat.le_of_ble_eq_true rfl, Nat.le_of_ble_eq_true rfl⟩ (fun H locs hI => ?_)
      refine lv_aload_n hx hb (dc tbX1_goesOnLike_k 12 rfl) rfl (lv_at hl 1 rfl) ?_
      obtain ⟨r13, q12, hf⟩ := cap_s hf
      refine g_callVi hx hb hml hown hts hK hap hsx hI (tX1_lastGauge l hk1 q12 H.size) cv_X1_lastGauge q_t3_75 rfl rfl ⟨Nat.le_of_ble_eq_true rfl, Nat.le_of_ble_eq_true rfl⟩ hk1.1 (by simp) rfl rfl rfl hl.1 rfl (Nat.le_of_ble_eq_true rfl) (dc tbX1_goesOnLike_k 13 rfl) ⟨Nat.le_of_ble_eq_true rfl, Nat.le_of_ble_eq_true rfl⟩ (fun H locs hI => ?_)
      refine lv_icmp_ne (tgt := 70) hx hb (dc tbX1_goesOnLike_k 14 rfl) rfl (fun c15 => ?_) (fun c15 => ?_)
      · have hf := ite_f c15 hf
        refine lv_iconst (v := 0) hx hb (dc tbX1_goesOnLike_k 32 rfl) ic_0 ?_
        cases hf
        exact g_zret hx hb hr hlk hI rfl (dc tbX1_goesOnLike_k 33 rfl)
      · have hf := ite_t c15 hf
        refine lv_aload_n hx hb (dc tbX1_goesOnLike_k 15 rfl) rfl (lv_at hl 0 rfl) ?_
        refine gg1_7 hx hb hts hown hK hI hk0.1 q_t1_118 (dc tbX1_goesOnLike_k 16 rfl) ?_
        refine lv_aload_n hx hb (dc tbX1_goesOnLike_k 17 rfl) rfl (lv_at hl 1 rfl) ?_
        refine gg1_7 hx hb hts hown hK hI hk1.1 q_t1_118 (dc tbX1_goesOnLike_k 18 rfl) ?_
        refine lv_icmp_ne (tgt := 70) hx hb (dc tbX1_goesOnLike_k 19 rfl) rfl (fun c16 => ?_) (fun c16 => ?_)
        · have hf := ite_f c16 hf
          refine lv_iconst (v := 0) hx hb (dc tbX1_goesOnLike_k 32 rfl) ic_0 ?_
          cases hf
          exact g_zret hx hb hr hlk hI rfl (dc tbX1_goesOnLike_k 33 rfl)
        · have hf := ite_t c16 hf
          refine lv_aload_n hx hb (dc tbX1_goesOnLike_k 20 rfl) rfl (lv_at hl 0 rfl) ?_
          refine gg1_8 hx hb hts hown hK hI hk0.1 q_t1_120 (dc tbX1_goesOnLike_k 21 rfl) ?_
          refine lv_aload_n hx hb (dc tbX1_goesOnLike_k 22 rfl) rfl (lv_at hl 1 rfl) ?_
          refine gg1_8 hx hb hts hown hK hI hk1.1 q_t1_120 (dc tbX1_goesOnLike_k 23 rfl) ?_
          refine lv_icmp_ne (tgt := 70) hx hb (dc tbX1_goesOnLike_k 24 rfl) rfl (fun c17 => ?_) (fun c17 => ?_)
          · have hf := ite_f c17 hf
            refine lv_iconst (v := 0) hx hb (dc tbX1_goesOnLike_k 32 rfl) ic_0 ?_
            cases hf
            exact g_zret hx hb hr hlk hI rfl (dc tbX1_goesOnLike_k 33 rfl)
          · have hf := ite_t c17 hf
            refine lv_aload_n hx hb (dc tbX1_goesOnLike_k 25 rfl) rfl (lv_at hl 0 rfl) ?_
            refine gg1_9 hx hb hts hown hK hI hk0.1 q_t1_121 (dc tbX1_goesOnLike_k 26 rfl) ?_
            refine lv_aload_n hx hb (dc tbX1_goesOnLike_k 27 rfl) rfl (lv_at hl 1 rfl) ?_
            refine gg1_9 hx hb hts hown hK hI hk1.1 q_t1_121 (dc tbX1_goesOnLike_k 28 rfl) ?_
            refine lv_icmp_ne (tgt := 70) hx hb (dc tbX1_goesOnLike_k 29 rfl) rfl (fun c18 => ?_) (fun c18 => ?_)
            · have hf := ite_f c18 hf
              refine lv_iconst (v := 0) hx hb (dc tbX1_goesOnLike_k 32 rfl) ic_0 ?_
              cases hf
              exact g_zret hx hb hr hlk hI rfl (dc tbX1_goesOnLike_k 33 rfl)
            · have hf := ite_t c18 hf
              refine lv_iconst (v := 1) hx hb (dc tbX1_goesOnLike_k 30 rfl) ic_1 ?_
              refine lv_goto (tgt := 71) hx hb (dc tbX1_goesOnLike_k 31 rfl) rfl ?_
              cases hf
              exact g_zret hx hb hr hlk hI rfl (dc tbX1_goesOnLike_k 33 rfl)
theorem cv_X1_goesOnLike : cvF RX1 yX1_goesOnLike cX1_goesOnLike 2 (some .boolean) 1 := ⟨q_t3_68, q_t3_69, q_t1_3, q_t3_70, by decide +kernel⟩
