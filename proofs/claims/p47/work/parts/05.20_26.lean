/-! part 20.c1 -/
section
def mX1_putSheet (k0 : Nat) (x1 : Int32) (x2 : Int32) (x3 : Int32) (M : Mem) : Option (Mem × Unit) := bnd (wr M k0 3 x1) (fun M1 => bnd (wr M1 k0 4 x2) (fun M3 => bnd (wr M3 k0 5 x3) (fun M5 => some (M5, ()))))
set_option maxHeartbeats 4000000 in
set_option maxRecDepth 100000 in
theorem tX1_putSheet (l : Launch) {G : GT} {kd : Nat → Nat × Nat} {ad : Nat → Nat} {k0 : Nat} (hk0 : kPart kd k0) {x1 : Int32} {x2 : Int32} {x3 : Int32} {M : Mem} {MO : Mem} {vo : Unit} (hf : mX1_putSheet k0 x1 x2 x3 M = some (MO, vo)) (n : Nat) : Met l yX1_putSheet (Cond.code yX1_putSheet cX1_putSheet 4 none :: WA) (rmO 0 0 0) (Pg G kd ad n [.ref (ad k0), .int x1, .int x2, .int x3] M) (Qg G kd ad n MO none) 0 0 (AS kd ad n) := by
  refine g_body (own := RX1) (by decide) rfl ?_ (Nat.le_of_ble_eq_true rfl)
  intro p e s m args below meth c C _ H locs ls hI hl
  obtain ⟨hx, hb, hml, hr, hown, hts, hlk, hK, hap, hsx⟩ := id C
  have hl : lv_has ls 4 [(0, .ref (ad k0)), (1, .int x1), (2, .int x2), (3, .int x3)] := hl
  unfold mX1_putSheet at hf
  refine lv_aload_n hx hb (dc tbX1_putSheet_k 0 rfl) rfl (lv_at hl 0 rfl) ?_
  refine lv_iload_n hx hb (dc tbX1_putSheet_k 1 rfl) rfl (lv_at hl 1 rfl) ?_
  obtain ⟨M1, e2, hf⟩ := bnd_s hf
  refine gp1_3 hx hb hts hown hK hap hI hk0.1 q_t1_111 (dc tbX1_putSheet_k 2 rfl) e2 (fun H locs hI => ?_)
  refine lv_aload_n hx hb (dc tbX1_putSheet_k 3 rfl) rfl (lv_at hl 0 rfl) ?_
  refine lv_iload_n hx hb (dc tbX1_putSheet_k 4 rfl) rfl (lv_at hl 2 rfl) ?_
  obtain ⟨M3, e4, hf⟩ := bnd_s hf
  refine gp1_4 hx hb hts hown hK hap hI hk0.1 q_t1_113 (dc tbX1_putSheet_k 5 rfl) e4 (fun H locs hI => ?_)
  refine lv_aload_n hx hb (dc tbX1_putSheet_k 6 rfl) rfl (lv_at hl 0 rfl) ?_
  refine lv_iload_n hx hb (dc tbX1_putSheet_k 7 rfl) rfl (lv_at hl 3 rfl) ?_
  obtain ⟨M5, e6, hf⟩ := bnd_s hf
  refine gp1_5 hx hb hts hown hK hap hI hk0.1 q_t1_114 (dc tbX1_putSheet_k 8 rfl) e6 (fun H locs hI => ?_)
  cases hf
  exact g_vret hx hb hr hlk hI (dc tbX1_putSheet_k 9 rfl)
theorem cv_X1_putSheet : cvF RX1 yX1_putSheet cX1_putSheet 4 none 3 := ⟨q_t1_86, q_t1_87, q_t1_3, q_t1_88, by decide +kernel⟩
def mX1_putTool (k0 : Nat) (x1 : Int32) (x2 : Int32) (x3 : Int32) (M : Mem) : Option (Mem × Unit) := ite2 (x1 < 0) (some (M, ())) (ite2 ((5 : Int32) ≤ x1) (some (M, ())) (chk (okb ((2 : Int32) * x1) 10) (bnd (wr M (k0 + 2) (((2 : Int32) * x1)).toNatClampNeg x2) (fun M5 => chk (okb (((2 : Int32) * x1) + (1 : Int32)) 10) (bnd (wr M5 (k0 + 2) ((((2 : Int32) * x1) + (1 : Int32))).toNatClampNeg x3) (fun M8 => some (M8, ())))))))
set_option maxHeartbeats 4000000 in
set_option maxRecDepth 100000 in
theorem tX1_putTool (l : Launch) {G : GT} {kd : Nat → Nat × Nat} {ad : Nat → Nat} {k0 : Nat} (hk0 : kPart kd k0) {x1 : Int32} {x2 : Int32} {x3 : Int32} {M : Mem} {MO : Mem} {vo : Unit} (hf : mX1_putTool k0 x1 x2 x3 M = some (MO, vo)) (n : Nat) : Met l yX1_putTool (Cond.code yX1_putTool cX1_putTool 4 none :: WA) (rmO 0 0 0) (Pg G kd ad n [.ref (ad k0), .int x1, .int x2, .int x3] M) (Qg G kd ad n MO none) 0 0 (AS kd ad n) := by
  refine g_body (own := RX1) (by decide) rfl ?_ (Nat.le_of_ble_eq_true rfl)
  intro p e s m args below meth c C _ H locs ls hI hl
  obtain ⟨hx, hb, hml, hr, hown, hts, hlk, hK, hap, hsx⟩ := id C
  have hl : lv_has ls 4 [(0, .ref (ad k0)), (1, .int x1), (2, .int x2), (3, .int x3)] := hl
  unfold mX1_putTool at hf
  refine lv_iload_n hx hb (dc tbX1_putTool_k 0 rfl) rfl (lv_at hl 1 rfl) ?_
  refine lv_if_lt (tgt := 29) hx hb (dc tbX1_putTool_k 1 rfl) rfl (fun c1 => ?_) (fun c1 => ?_)
  · have hf := ite_t c1 hf
    cases hf
    exact g_vret hx hb hr hlk hI (dc tbX1_putTool_k 21 rfl)
  · have hf := ite_f c1 hf
    refine lv_iload_n hx hb (dc tbX1_putTool_k 2 rfl) rfl (lv_at hl 1 rfl) ?_
    refine lv_iconst (v := 5) hx hb (dc tbX1_putTool_k 3 rfl) ic_5 ?_
    refine lv_icmp_ge (tgt := 29) hx hb (dc tbX1_putTool_k 4 rfl) rfl (fun c2 => ?_) (fun c2 => ?_)
    · have hf := ite_t c2 hf
      cases hf
      exact g_vret hx hb hr hlk hI (dc tbX1_putTool_k 21 rfl)
    · have hf := ite_f c2 hf
      refine lv_aload_n hx hb (dc tbX1_putTool_k 5 rfl) rfl (lv_at hl 0 rfl) ?_
      refine gg1_6 hx hb hts hown hK hI hk0.1 q_t1_115 (dc tbX1_putTool_k 6 rfl) ?_
      refine lv_iconst (v := 2) hx hb (dc tbX1_putTool_k 7 rfl) ic_2 ?_
      refine lv_iload_n hx hb (dc tbX1_putTool_k 8 rfl) rfl (lv_at hl 1 rfl) ?_
      refine lv_imul hx hb (dc tbX1_putTool_k 9 rfl) ?_
      refine lv_iload_n hx hb (dc tbX1_putTool_k 10 rfl) rfl (lv_at hl 2 rfl) ?_
      obtain ⟨h3, hf⟩ := chk_s hf
      obtain ⟨M5, e4, hf⟩ := bnd_s hf
      refine g_iast hx hb hK hap hI hk0.2.2.1 (okb_in h3) (dc tbX1_putTool_k 11 rfl) e4 (fun H locs hI => ?_)
      refine lv_aload_n hx hb (dc tbX1_putTool_k 12 rfl) rfl (lv_at hl 0 rfl) ?_
      refine gg1_6 hx hb hts hown hK hI hk0.1 q_t1_115 (dc tbX1_putTool_k 13 rfl) ?_
      refine lv_iconst (v := 2) hx hb (dc tbX1_putTool_k 14 rfl) ic_2 ?_
      refine lv_iload_n hx hb (dc tbX1_putTool_k 15 rfl) rfl (lv_at hl 1 rfl) ?_
      refine lv_imul hx hb (dc tbX1_putTool_k 16 rfl) ?_
      refine lv_iconst (v := 1) hx hb (dc tbX1_putTool_k 17 rfl) ic_1 ?_
      refine lv_iadd hx hb (dc tbX1_putTool_k 18 rfl) ?_
      refine lv_iload_n hx hb (dc tbX1_putTool_k 19 rfl) rfl (lv_at hl 3 rfl) ?_
      obtain ⟨h6, hf⟩ := chk_s hf
      obtain ⟨M8, e7, hf⟩ := bnd_s hf
      refine g_iast hx hb hK hap hI hk0.2.2.1 (okb_in h6) (dc tbX1_putTool_k 20 rfl) e7 (fun H locs hI => ?_)
      cases hf
      exact g_vret hx hb hr hlk hI (dc tbX1_putTool_k 21 rfl)
theorem cv_X1_putTool : cvF RX1 yX1_putTool cX1_putTool 4 none 3 := ⟨q_t1_90, q_t1_91, q_t1_3, q_t1_92, by decide +kernel⟩
def mX1_putCosts (k0 : Nat) (x1 : Int32) (x2 : Int32) (x3 : Int32) (M : Mem) : Option (Mem × Unit) := bnd (wr M k0 7 x1) (fun M1 => bnd (wr M1 k0 8 x2) (fun M3 => bnd (wr M3 k0 9 x3) (fun M5 => some (M5, ()))))
set_option maxHeartbeats 4000000 in
set_option maxRecDepth 100000 in
theorem tX1_putCosts (l : Launch) {G : GT} {kd : Nat → Nat × Nat} {ad : Nat → Nat} {k0 : Nat} (hk0 : kPart kd k0) {x1 : Int32} {x2 : Int32} {x3 : Int32} {M : Mem} {MO : Mem} {vo : Unit} (hf : mX1_putCosts k0 x1 x2 x3 M = some (MO, vo)) (n : Nat) : Met l yX1_putCosts (Cond.code yX1_putCosts cX1_putCosts 4 none :: WA) (rmO 0 0 0) (Pg G kd ad n [.ref (ad k0), .int x1, .int x2, .int x3] M) (Qg G kd ad n MO none) 0 0 (AS kd ad n) := by
  refine g_body (own := RX1) (by decide) rfl ?_ (Nat.le_of_ble_eq_true rfl)
  intro p e s m args below meth c C _ H locs ls hI hl
  obtain ⟨hx, hb, hml, hr, hown, hts, hlk, hK, hap, hsx⟩ := id C
  have hl : lv_has ls 4 [(0, .ref (ad k0)), (1, .int x1), (2, .int x2), (3, .int x3)] := hl
  unfold mX1_putCosts at hf
  refine lv_aload_n hx hb (dc tbX1_putCosts_k 0 rfl) rfl (lv_at hl 0 rfl) ?_
  refine lv_iload_n hx hb (dc tbX1_putCosts_k 1 rfl) rfl (lv_at hl 1 rfl) ?_
  obtain ⟨M1, e2, hf⟩ := bnd_s hf
  refine gp1_7 hx hb hts hown hK hap hI hk0.1 q_t1_118 (dc tbX1_putCosts_k 2 rfl) e2 (fun H locs hI => ?_)
  refine lv_aload_n hx hb (dc tbX1_putCosts_k 3 rfl) rfl (lv_at hl 0 rfl) ?_
  refine lv_iload_n hx hb (dc tbX1_putCosts_k 4 rfl) rfl (lv_at hl 2 rfl) ?_
  obtain ⟨M3, e4, hf⟩ := bnd_s hf
  refine gp1_8 hx hb hts hown hK hap hI hk0.1 q_t1_120 (dc tbX1_putCosts_k 5 rfl) e4 (fun H locs hI => ?_)
  refine lv_aload_n hx hb (dc tbX1_putCosts_k 6 rfl) rfl (lv_at hl 0 rfl) ?_
  refine lv_iload_n hx hb (dc tbX1_putCosts_k 7 rfl) rfl (lv_at hl 3 rfl) ?_
  obtain ⟨M5, e6, hf⟩ := bnd_s hf
  refine gp1_9 hx hb hts hown hK hap hI hk0.1 q_t1_121 (dc tbX1_putCosts_k 8 rfl) e6 (fun H locs hI => ?_)
  cases hf
  exact g_vret hx hb hr hlk hI (dc tbX1_putCosts_k 9 rfl)
theorem cv_X1_putCosts : cvF RX1 yX1_putCosts cX1_putCosts 4 none 3 := ⟨q_t1_94, q_t1_95, q_t1_3, q_t1_96, by decide +kernel⟩
def mX1_dropSteps (k0 : Nat) (M : Mem) : Option (Mem × Unit) := bnd (wr M k0 13 (0 : Int32)) (fun M1 => bnd (wr M1 k0 14 (0 : Int32)) (fun M3 => some (M3, ())))
set_option maxHeartbeats 4000000 in
set_option maxRecDepth 100000 in
theorem tX1_dropSteps (l : Launch) {G : GT} {kd : Nat → Nat × Nat} {ad : Nat → Nat} {k0 : Nat} (hk0 : kPart kd k0) {M : Mem} {MO : Mem} {vo : Unit} (hf : mX1_dropSteps k0 M = some (MO, vo)) (n : Nat) : Met l yX1_dropSteps (Cond.code yX1_dropSteps cX1_dropSteps 1 none :: WA) (rmO 0 0 0) (Pg G kd ad n [.ref (ad k0)] M) (Qg G kd ad n MO none) 0 0 (AS kd ad n) := by
  refine g_body (own := RX1) (by decide) rfl ?_ (Nat.le_of_ble_eq_true rfl)
  intro p e s m args below meth c C _ H locs ls hI hl
  obtain ⟨hx, hb, hml, hr, hown, hts, hlk, hK, hap, hsx⟩ := id C
  have hl : lv_has ls 1 [(0, .ref (ad k0))] := hl
  unfold mX1_dropSteps at hf
  refine lv_aload_n hx hb (dc tbX1_dropSteps_k 0 rfl) rfl (lv_at hl 0 rfl) ?_
  refine lv_iconst (v := 0) hx hb (dc tbX1_dropSteps_k 1 rfl) ic_0 ?_
  obtain ⟨M1, e2, hf⟩ := bnd_s hf
  refine gp1_13 hx hb hts hown hK hap hI hk0.1 q_t1_126 (dc tbX1_dropSteps_k 2 rfl) e2 (fun H locs hI => ?_)
  refine lv_aload_n hx hb (dc tbX1_dropSteps_k 3 rfl) rfl (lv_at hl 0 rfl) ?_
  refine lv_iconst (v := 0) hx hb (dc tbX1_dropSteps_k 4 rfl) ic_0 ?_
  obtain ⟨M3, e4, hf⟩ := bnd_s hf
  refine gp1_14 hx hb hts hown hK hap hI hk0.1 q_t1_129 (dc tbX1_dropSteps_k 5 rfl) e4 (fun H locs hI => ?_)
  cases hf
  exact g_vret hx hb hr hlk hI (dc tbX1_dropSteps_k 6 rfl)
theorem cv_X1_dropSteps : cvF RX1 yX1_dropSteps cX1_dropSteps 1 none 0 := ⟨q_t1_98, q_t1_99, q_t1_3, q_t1_100, by decide +kernel⟩
def mX1_clear (k0 : Nat) (M : Mem) : Option (Mem × Unit) := bnd (wr M k0 0 (0 : Int32)) (fun M1 => bnd (wr M1 k0 2 (0 : Int32)) (fun M3 => bnd (wr M3 k0 10 (0 : Int32)) (fun M5 => cal (mX1_putSheet k0 (10 : Int32) (10 : Int32) (40 : Int32) M5) (fun M9 _ => cal (mX1_putTool k0 (0 : Int32) (300 : Int32) (600 : Int32) M9) (fun M12 _ => cal (mX1_putTool k0 (1 : Int32) (300 : Int32) (600 : Int32) M12) (fun M15 _ => cal (mX1_putTool k0 (2 : Int32) (200 : Int32) (400 : Int32) M15) (fun M18 _ => cal (mX1_putTool k0 (3 : Int32) (0 : Int32) (9999 : Int32) M18) (fun M21 _ => cal (mX1_putTool k0 (4 : Int32) (0 : Int32) (0 : Int32) M21) (fun M24 _ => cal (mX1_putCosts k0 (1 : Int32) (1 : Int32) (1 : Int32) M24) (fun M27 _ => cal (mX1_dropSteps k0 M27) (fun M30 _ => some (M30, ()))))))))))))
set_option maxHeartbeats 4000000 in
set_option maxRecDepth 100000 in
theorem tX1_clear (l : Launch) {G : GT} {kd : Nat → Nat × Nat} {ad : Nat → Nat} {k0 : Nat} (hk0 : kPart kd k0) {M : Mem} {MO : Mem} {vo : Unit} (hf : mX1_clear k0 M = some (MO, vo)) (n : Nat) : Met l yX1_clear (Cond.code yX1_clear cX1_clear 1 none :: WA) (rmO 1 0 0) (Pg G kd ad n [.ref (ad k0)] M) (Qg G kd ad n MO none) 0 0 (AS kd ad n) := by
  refine g_body (own := RX1) (by decide) rfl ?_ (Nat.le_of_ble_eq_true rfl)
  intro p e s m args below meth c C _ H locs ls hI hl
  obtain ⟨hx, hb, hml, hr, hown, hts, hlk, hK, hap, hsx⟩ := id C
  have hl : lv_has ls 1 [(0, .ref (ad k0))] := hl
  unfold mX1_clear at hf
  refine lv_aload_n hx hb (dc tbX1_clear_0_k 0 rfl) rfl (lv_at hl 0 rfl) ?_
  refine lv_iconst (v := 0) hx hb (dc tbX1_clear_0_k 1 rfl) ic_0 ?_
  obtain ⟨M1, e2, hf⟩ := bnd_s hf
  refine gp1_0 hx hb hts hown hK hap hI hk0.1 q_t1_101 (dc tbX1_clear_0_k 2 rfl) e2 (fun H locs hI => ?_)
  refine lv_aload_n hx hb (dc tbX1_clear_0_k 3 rfl) rfl (lv_at hl 0 rfl) ?_
  refine lv_iconst (v := 0) hx hb (dc tbX1_clear_0_k 4 rfl) ic_0 ?_
  obtain ⟨M3, e4, hf⟩ := bnd_s hf
  refine gp1_2 hx hb hts hown hK hap hI hk0.1 q_t1_108 (dc tbX1_clear_0_k 5 rfl) e4 (fun H locs hI => ?_)
  refine lv_aload_n hx hb (dc tbX1_clear_0_k 6 rfl) rfl (lv_at hl 0 rfl) ?_
  refine lv_iconst (v := 0) hx hb (dc tbX1_clear_0_k 7 rfl) ic_0 ?_
  obtain ⟨M5, e6, hf⟩ := bnd_s hf
  refine gp1_10 hx hb hts hown hK hap hI hk0.1 q_t1_122 (dc tbX1_clear_0_k 8 rfl) e6 (fun H locs hI => ?_)
  refine lv_aload_n hx hb (dc tbX1_clear_0_k 9 rfl) rfl (lv_at hl 0 rfl) ?_
  refine lv_bipush (v := 10) hx hb (dc tbX1_clear_0_k 10 rfl) bp_10 ?_
  refine lv_bipush (v := 10) hx hb (dc tbX1_clear_0_k 11 rfl) bp_10 ?_
  refine lv_bipush (v := 40) hx hb (dc tbX1_clear_0_k 12 rfl) bp_40 ?_
  obtain ⟨M9, r8, q7, hf⟩ := cal_s hf
  refine g_callVv hx hb hml hown hts hK hap hsx hI (tX1_putSheet l hk0 q7 H.size) cv_X1_putSheet q_t1_85 rfl rfl ⟨Nat.le_of_ble_eq_true rfl, Nat.le_of_ble_eq_true rfl⟩ hk0.1 (by simp) rfl rfl rfl hl.1 rfl (Nat.le_of_ble_eq_true rfl) (dc tbX1_clear_0_k 13 rfl) ⟨Nat.le_of_ble_eq_true rfl, Nat.le_of_ble_eq_true rfl⟩ (fun H locs hI => ?_)
  refine lv_aload_n hx hb (dc tbX1_clear_0_k 14 rfl) rfl (lv_at hl 0 rfl) ?_
  refine lv_iconst (v := 0) hx hb (dc tbX1_clear_0_k 15 rfl) ic_0 ?_
  refine lv_sipush (v := 300) hx hb (dc tbX1_clear_0_k 16 rfl) sp_300 ?_
  refine lv_sipush (v := 600) hx hb (dc tbX1_clear_0_k 17 rfl) sp_600 ?_
  obtain ⟨M12, r11, q10, hf⟩ := cal_s hf
  refine g_callVv hx hb hml hown hts hK hap hsx hI (tX1_putTool l hk0 q10 H.size) cv_X1_putTool q_t1_89 rfl rfl ⟨Nat.le_of_ble_eq_true rfl, Nat.le_of_ble_eq_true rfl⟩ hk0.1 (by simp) rfl rfl rfl hl.1 rfl (Nat.le_of_ble_eq_true rfl) (dc tbX1_clear_0_k 18 rfl) ⟨Nat.le_of_ble_eq_true rfl, Nat.le_of_ble_eq_true rfl⟩ (fun H locs hI => ?_)
  refine lv_aload_n hx hb (dc tbX1_clear_0_k 19 rfl) rfl (lv_at hl 0 rfl) ?_
  refine lv_iconst (v := 1) hx hb (dc tbX1_clear_0_k 20 rfl) ic_1 ?_
  refine lv_sipush (v := 300) hx hb (dc tbX1_clear_0_k 21 rfl) sp_300 ?_
  refine lv_sipush (v := 600) hx hb (dc tbX1_clear_0_k 22 rfl) sp_600 ?_
  obtain ⟨M15, r14, q13, hf⟩ := cal_s hf
  refine g_callVv hx hb hml hown hts hK hap hsx hI (tX1_putTool l hk0 q13 H.size) cv_X1_putTool q_t1_89 rfl rfl ⟨Nat.le_of_ble_eq_true rfl, Nat.le_of_ble_eq_true rfl⟩ hk0.1 (by simp) rfl rfl rfl hl.1 rfl (Nat.le_of_ble_eq_true rfl) (dc tbX1_clear_0_k 23 rfl) ⟨Nat.le_of_ble_eq_true rfl, Nat.le_of_ble_eq_true rfl⟩ (fun H locs hI => ?_)
  refine lv_aload_n hx hb (dc tbX1_clear_0_k 24 rfl) rfl (lv_at hl 0 rfl) ?_
  refine lv_iconst (v := 2) hx hb (dc tbX1_clear_0_k 25 rfl) ic_2 ?_
  refine lv_sipush (v := 200) hx hb (dc tbX1_clear_0_k 26 rfl) sp_200 ?_
  refine lv_sipush (v := 400) hx hb (dc tbX1_clear_0_k 27 rfl) sp_400 ?_
  obtain ⟨M18, r17, q16, hf⟩ := cal_s hf
  refine g_callVv hx hb hml hown hts hK hap hsx hI (tX1_putTool l hk0 q16 H.size) cv_X1_putTool q_t1_89 rfl rfl ⟨Nat.le_of_ble_eq_true rfl, Nat.le_of_ble_eq_true rfl⟩ hk0.1 (by simp) rfl rfl rfl hl.1 rfl (Nat.le_of_ble_eq_true rfl) (dc tbX1_clear_0_k 28 rfl) ⟨Nat.le_of_ble_eq_true rfl, Nat.le_of_ble_eq_true rfl⟩ (fun H locs hI => ?_)
  refine lv_aload_n hx hb (dc tbX1_clear_0_k 29 rfl) rfl (lv_at hl 0 rfl) ?_
  refine lv_iconst (v := 3) hx hb (dc tbX1_clear_0_k 30 rfl) ic_3 ?_
  refine lv_iconst (v := 0) hx hb (dc tbX1_clear_0_k 31 rfl) ic_0 ?_
  refine lv_sipush (v := 9999) hx hb (dc tbX1_clear_0_k 32 rfl) sp_9999 ?_
  obtain ⟨M21, r20, q19, hf⟩ := cal_s hf
  refine g_callVv hx hb hml hown hts hK hap hsx hI (tX1_putTool l hk0 q19 H.size) cv_X1_putTool q_t1_89 rfl rfl ⟨Nat.le_of_ble_eq_true rfl, Nat.le_of_ble_eq_true rfl⟩ hk0.1 (by simp) rfl rfl rfl hl.1 rfl (Nat.le_of_ble_eq_true rfl) (dc tbX1_clear_0_k 33 rfl) ⟨Nat.le_of_ble_eq_true rfl, Nat.le_of_ble_eq_true rfl⟩ (fun H locs hI => ?_)
  refine lv_aload_n hx hb (dc tbX1_clear_0_k 34 rfl) rfl (lv_at hl 0 rfl) ?_
  refine lv_iconst (v := 4) hx hb (dc tbX1_clear_0_k 35 rfl) ic_4 ?_
  refine lv_iconst (v := 0) hx hb (dc tbX1_clear_0_k 36 rfl) ic_0 ?_
  refine lv_iconst (v := 0) hx hb (dc tbX1_clear_0_k 37 rfl) ic_0 ?_
  obtain ⟨M24, r23, q22, hf⟩ := cal_s hf
  refine g_callVv hx hb hml hown hts hK hap hsx hI (tX1_putTool l hk0 q22 H.size) cv_X1_putTool q_t1_89 rfl rfl ⟨Nat.le_of_ble_eq_true rfl, Nat.le_of_ble_eq_true rfl⟩ hk0.1 (by simp) rfl rfl rfl hl.1 rfl (Nat.le_of_ble_eq_true rfl) (dc tbX1_clear_0_k 38 rfl) ⟨Nat.le_of_ble_eq_true rfl, Nat.le_of_ble_eq_true rfl⟩ (fun H locs hI => ?_)
  refine lv_aload_n hx hb (dc tbX1_clear_0_k 39 rfl) rfl (lv_at hl 0 rfl) ?_
  refine lv_iconst (v := 1) hx hb (dc tbX1_clear_1_k 0 rfl) ic_1 ?_
  refine lv_iconst (v := 1) hx hb (dc tbX1_clear_1_k 1 rfl) ic_1 ?_
  refine lv_iconst (v := 1) hx hb (dc tbX1_clear_1_k 2 rfl) ic_1 ?_
  obtain ⟨M27, r26, q25, hf⟩ := cal_s hf
  refine g_callVv hx hb hml hown hts hK hap hsx hI (tX1_putCosts l hk0 q25 H.size) cv_X1_putCosts q_t1_93 rfl rfl ⟨Nat.le_of_ble_eq_true rfl, Nat.le_of_ble_eq_true rfl⟩ hk0.1 (by simp) rfl rfl rfl hl.1 rfl (Nat.le_of_ble_eq_true rfl) (dc tbX1_clear_1_k 3 rfl) ⟨Nat.le_of_ble_eq_true rfl, Nat.le_of_ble_eq_true rfl⟩ (fun H locs hI => ?_)
  refine lv_aload_n hx hb (dc tbX1_clear_1_k 4 rfl) rfl (lv_at hl 0 rfl) ?_
  obtain ⟨M30, r29, q28, hf⟩ := cal_s hf
  refine g_callVv hx hb hml hown hts hK hap hsx hI (tX1_dropSteps l hk0 q28 H.size) cv_X1_dropSteps q_t1_97 rfl rfl ⟨Nat.le_of_ble_eq_true rfl, Nat.le_of_ble_eq_true rfl⟩ hk0.1 (by simp) rfl rfl rfl hl.1 rfl (Nat.le_of_ble_eq_true rfl) (dc tbX1_clear_1_k 5 rfl) ⟨Nat.le_of_ble_eq_true rfl, Nat.le_of_ble_eq_true rfl⟩ (fun H locs hI => ?_)
  cases hf
  exact g_vret hx hb hr hlk hI (dc tbX1_clear_1_k 6 rfl)
theorem cv_X1_clear : cvF RX1 yX1_clear cX1_clear 1 none 0 := ⟨q_t1_82, q_t1_83, q_t1_3, q_t1_84, by decide +kernel⟩
def mX1_copyFrom (k0 : Nat) (k1 : Nat) (M : Mem) : Option (Mem × Unit) := bnd (wr M k0 0 (rd M k1 0)) (fun M1 => bnd (cpy M1 (k1 + 1) (k0 + 1) 0 0 9) (fun M3 => bnd (wr M3 k0 2 (rd M3 k1 2)) (fun M5 => cal (mX1_putSheet k0 (rd M5 k1 3) (rd M5 k1 4) (rd M5 k1 5) M5) (fun M9 _ => bnd (cpy M9 (k1 + 2) (k0 + 2) 0 0 10) (fun M10 => cal (mX1_putCosts k0 (rd M10 k1 7) (rd M10 k1 8) (rd M10 k1 9) M10) (fun M14 _ => bnd (wr M14 k0 10 (rd M14 k1 10)) (fun M15 => bnd (cpy M15 (k1 + 3) (k0 + 3) 0 0 8) (fun M17 => bnd (cpy M17 (k1 + 4) (k0 + 4) 0 0 8) (fun M19 => bnd (wr M19 k0 13 (rd M19 k1 13)) (fun M21 => bnd (wr M21 k0 14 (rd M21 k1 14)) (fun M23 => bnd (cpy M23 (k1 + 5) (k0 + 5) 0 0 8) (fun M25 => bnd (cpy M25 (k1 + 6) (k0 + 6) 0 0 8) (fun M27 => bnd (cpy M27 (k1 + 7) (k0 + 7) 0 0 8) (fun M29 => some (M29, ())))))))))))))))
set_option maxHeartbeats 4000000 in
set_option maxRecDepth 100000 in
theorem tX1_copyFrom (l : Launch) {G : GT} {kd : Nat → Nat × Nat} {ad : Nat → Nat} {k0 : Nat} {k1 : Nat} (hk0 : kPart kd k0) (hk1 : kPart kd k1) {M : Mem} {MO : Mem} {vo : Unit} (hf : mX1_copyFrom k0 k1 M = some (MO, vo)) (n : Nat) : Met l yX1_copyFrom (Cond.code yX1_copyFrom cX1_copyFrom 2 none :: WA) (rmO 1 0 0) (Pg G kd ad n [.ref (ad k0), .ref (ad k1)] M) (Qg G kd ad n MO none) 0 0 (AS kd ad n) := by
  refine g_body (own := RX1) (by decide) rfl ?_ (Nat.le_of_ble_eq_true rfl)
  intro p e s m args below meth c C _ H locs ls hI hl
  obtain ⟨hx, hb, hml, hr, hown, hts, hlk, hK, hap, hsx⟩ := id C
  have hl : lv_has ls 2 [(0, .ref (ad k0)), (1, .ref (ad k1))] := hl
  unfold mX1_copyFrom at hf
  refine lv_aload_n hx hb (dc tbX1_copyFrom_0_k 0 rfl) rfl (lv_at hl 0 rfl) ?_
  refine lv_aload_n hx hb (dc tbX1_copyFrom_0_k 1 rfl) rfl (lv_at hl 1 rfl) ?_
  refine gg1_0 hx hb hts hown hK hI hk1.1 q_t1_101 (dc tbX1_copyFrom_0_k 2 rfl) ?_
  obtain ⟨M1, e2, hf⟩ := bnd_s hf
  refine gp1_0 hx hb hts hown hK hap hI hk0.1 q_t1_101 (dc tbX1_copyFrom_0_k 3 rfl) e2 (fun H locs hI => ?_)
  refine lv_aload_n hx hb (dc tbX1_copyFrom_0_k 4 rfl) rfl (lv_at hl 1 rfl) ?_
  refine gg1_1 hx hb hts hown hK hI hk1.1 q_t1_105 (dc tbX1_copyFrom_0_k 5 rfl) ?_
  refine lv_iconst (v := 0) hx hb (dc tbX1_copyFrom_0_k 6 rfl) ic_0 ?_
  refine lv_aload_n hx hb (dc tbX1_copyFrom_0_k 7 rfl) rfl (lv_at hl 0 rfl) ?_
  refine gg1_1 hx hb hts hown hK hI hk0.1 q_t1_105 (dc tbX1_copyFrom_0_k 8 rfl) ?_
  refine lv_iconst (v := 0) hx hb (dc tbX1_copyFrom_0_k 9 rfl) ic_0 ?_
  refine lv_bipush (v := 9) hx hb (dc tbX1_copyFrom_0_k 10 rfl) bp_9 ?_
  obtain ⟨M3, e4, hf⟩ := bnd_s hf
  refine g_copy hx hb (hml.trans hl.1.symm) hown (hts _ q_t3_87) (hts _ q_t3_89) (hts _ q_t3_88) (hts _ q_t1_20) hK hap hI hk1.2.1 hk0.2.1 (N := 9) rfl rfl (by decide) (Nat.le_of_ble_eq_true rfl) (Nat.le_of_ble_eq_true rfl) ⟨Nat.le_of_ble_eq_true rfl, Nat.le_of_ble_eq_true rfl⟩ (dc tbX1_copyFrom_0_k 11 rfl) e4 (fun H locs hI => ?_)
  refine lv_aload_n hx hb (dc tbX1_copyFrom_0_k 12 rfl) rfl (lv_at hl 0 rfl) ?_
  refine lv_aload_n hx hb (dc tbX1_copyFrom_0_k 13 rfl) rfl (lv_at hl 1 rfl) ?_
  refine gg1_2 hx hb hts hown hK hI hk1.1 q_t1_108 (dc tbX1_copyFrom_0_k 14 rfl) ?_
  obtain ⟨M5, e6, hf⟩ := bnd_s hf
  refine gp1_2 hx hb hts hown hK hap hI hk0.1 q_t1_108 (dc tbX1_copyFrom_0_k 15 rfl) e6 (fun H locs hI => ?_)
  refine lv_aload_n hx hb (dc tbX1_copyFrom_0_k 16 rfl) rfl (lv_at hl 0 rfl) ?_
  refine lv_aload_n hx hb (dc tbX1_copyFrom_0_k 17 rfl) rfl (lv_at hl 1 rfl) ?_
  refine gg1_3 hx hb hts hown hK hI hk1.1 q_t1_111 (dc tbX1_copyFrom_0_k 18 rfl) ?_
  refine lv_aload_n hx hb (dc tbX1_copyFrom_0_k 19 rfl) rfl (lv_at hl 1 rfl) ?_
  refine gg1_4 hx hb hts hown hK hI hk1.1 q_t1_113 (dc tbX1_copyFrom_0_k 20 rfl) ?_
  refine lv_aload_n hx hb (dc tbX1_copyFrom_0_k 21 rfl) rfl (lv_at hl 1 rfl) ?_
  refine gg1_5 hx hb hts hown hK hI hk1.1 q_t1_114 (dc tbX1_copyFrom_0_k 22 rfl) ?_
  obtain ⟨M9, r8, q7, hf⟩ := cal_s hf
  refine g_callVv hx hb hml hown hts hK hap hsx hI (tX1_putSheet l hk0 q7 H.size) cv_X1_putSheet q_t1_85 rfl rfl ⟨Nat.le_of_ble_eq_true rfl, Nat.le_of_ble_eq_true rfl⟩ hk0.1 (by simp) rfl rfl rfl hl.1 rfl (Nat.le_of_ble_eq_true rfl) (dc tbX1_copyFrom_0_k 23 rfl) ⟨Nat.le_of_ble_eq_true rfl, Nat.le_of_ble_eq_true rfl⟩ (fun H locs hI => ?_)
  refine lv_aload_n hx hb (dc tbX1_copyFrom_0_k 24 rfl) rfl (lv_at hl 1 rfl) ?_
  refine gg1_6 hx hb hts hown hK hI hk1.1 q_t1_115 (dc tbX1_copyFrom_0_k 25 rfl) ?_
  refine lv_iconst (v := 0) hx hb (dc tbX1_copyFrom_0_k 26 rfl) ic_0 ?_
  refine lv_aload_n hx hb (dc tbX1_copyFrom_0_k 27 rfl) rfl (lv_at hl 0 rfl) ?_
  refine gg1_6 hx hb hts hown hK hI hk0.1 q_t1_115 (dc tbX1_copyFrom_0_k 28 rfl) ?_
  refine lv_iconst (v := 0) hx hb (dc tbX1_copyFrom_0_k 29 rfl) ic_0 ?_
  refine lv_bipush (v := 10) hx hb (dc tbX1_copyFrom_0_k 30 rfl) bp_10 ?_
  obtain ⟨M10, e11, hf⟩ := bnd_s hf
  refine g_copy hx hb (hml.trans hl.1.symm) hown (hts _ q_t3_87) (hts _ q_t3_89) (hts _ q_t3_88) (hts _ q_t1_20) hK hap hI hk1.2.2.1 hk0.2.2.1 (N := 10) rfl rfl (by decide) (Nat.le_of_ble_eq_true rfl) (Nat.le_of_ble_eq_true rfl) ⟨Nat.le_of_ble_eq_true rfl, Nat.le_of_ble_eq_true rfl⟩ (dc tbX1_copyFrom_0_k 31 rfl) e11 (fun H locs hI => ?_)
  refine lv_aload_n hx hb (dc tbX1_copyFrom_0_k 32 rfl) rfl (lv_at hl 0 rfl) ?_
  refine lv_aload_n hx hb (dc tbX1_copyFrom_0_k 33 rfl) rfl (lv_at hl 1 rfl) ?_
  refine gg1_7 hx hb hts hown hK hI hk1.1 q_t1_118 (dc tbX1_copyFrom_0_k 34 rfl) ?_
  refine lv_aload_n hx hb (dc tbX1_copyFrom_0_k 35 rfl) rfl (lv_at hl 1 rfl) ?_
  refine gg1_8 hx hb hts hown hK hI hk1.1 q_t1_120 (dc tbX1_copyFrom_0_k 36 rfl) ?_
  refine lv_aload_n hx hb (dc tbX1_copyFrom_0_k 37 rfl) rfl (lv_at hl 1 rfl) ?_
  refine gg1_9 hx hb hts hown hK hI hk1.1 q_t1_121 (dc tbX1_copyFrom_0_k 38 rfl) ?_
  obtain ⟨M14, r13, q12, hf⟩ := cal_s hf
  refine g_callVv hx hb hml hown hts hK hap hsx hI (tX1_putCosts l hk0 q12 H.size) cv_X1_putCosts q_t1_93 rfl rfl ⟨Nat.le_of_ble_eq_true rfl, Nat.le_of_ble_eq_true rfl⟩ hk0.1 (by simp) rfl rfl rfl hl.1 rfl (Nat.le_of_ble_eq_true rfl) (dc tbX1_copyFrom_0_k 39 rfl) ⟨Nat.le_of_ble_eq_true rfl, Nat.le_of_ble_eq_true rfl⟩ (fun H locs hI => ?_)
  refine lv_aload_n hx hb (dc tbX1_copyFrom_1_k 0 rfl) rfl (lv_at hl 0 rfl) ?_
  refine lv_aload_n hx hb (dc tbX1_copyFrom_1_k 1 rfl) rfl (lv_at hl 1 rfl) ?_
  refine gg1_10 hx hb hts hown hK hI hk1.1 q_t1_122 (dc tbX1_copyFrom_1_k 2 rfl) ?_
  obtain ⟨M15, e16, hf⟩ := bnd_s hf
  refine gp1_10 hx hb hts hown hK hap hI hk0.1 q_t1_122 (dc tbX1_copyFrom_1_k 3 rfl) e16 (fun H locs hI => ?_)
  refine lv_aload_n hx hb (dc tbX1_copyFrom_1_k 4 rfl) rfl (lv_at hl 1 rfl) ?_
  refine gg1_11 hx hb hts hown hK hI hk1.1 q_t1_124 (dc tbX1_copyFrom_1_k 5 rfl) ?_
  refine lv_iconst (v := 0) hx hb (dc tbX1_copyFrom_1_k 6 rfl) ic_0 ?_
  refine lv_aload_n hx hb (dc tbX1_copyFrom_1_k 7 rfl) rfl (lv_at hl 0 rfl) ?_
  refine gg1_11 hx hb hts hown hK hI hk0.1 q_t1_124 (dc tbX1_copyFrom_1_k 8 rfl) ?_
  refine lv_iconst (v := 0) hx hb (dc tbX1_copyFrom_1_k 9 rfl) ic_0 ?_
  refine lv_bipush (v := 8) hx hb (dc tbX1_copyFrom_1_k 10 rfl) bp_8 ?_
  obtain ⟨M17, e18, hf⟩ := bnd_s hf
  refine g_copy hx hb (hml.trans hl.1.symm) hown (hts _ q_t3_87) (hts _ q_t3_89) (hts _ q_t3_88) (hts _ q_t1_20) hK hap hI hk1.2.2.2.1 hk0.2.2.2.1 (N := 8) rfl rfl (by decide) (Nat.le_of_ble_eq_true rfl) (Nat.le_of_ble_eq_true rfl) ⟨Nat.le_of_ble_eq_true rfl, Nat.le_of_ble_eq_true rfl⟩ (dc tbX1_copyFrom_1_k 11 rfl) e18 (fun H locs hI => ?_)
  refine lv_aload_n hx hb (dc tbX1_copyFrom_1_k 12 rfl) rfl (lv_at hl 1 rfl) ?_
  refine gg1_12 hx hb hts hown hK hI hk1.1 q_t1_125 (dc tbX1_copyFrom_1_k 13 rfl) ?_
  refine lv_iconst (v := 0) hx hb (dc tbX1_copyFrom_1_k 14 rfl) ic_0 ?_
  refine lv_aload_n hx hb (dc tbX1_copyFrom_1_k 15 rfl) rfl (lv_at hl 0 rfl) ?_
  refine gg1_12 hx hb hts hown hK hI hk0.1 q_t1_125 (dc tbX1_copyFrom_1_k 16 rfl) ?_
  refine lv_iconst (v := 0) hx hb (dc tbX1_copyFrom_1_k 17 rfl) ic_0 ?_
  refine lv_bipush (v := 8) hx hb (dc tbX1_copyFrom_1_k 18 rfl) bp_8 ?_
  obtain ⟨M19, e20, hf⟩ := bnd_s hf
  refine g_copy hx hb (hml.trans hl.1.symm) hown (hts _ q_t3_87) (hts _ q_t3_89) (hts _ q_t3_88) (hts _ q_t1_20) hK hap hI hk1.2.2.2.2.1 hk0.2.2.2.2.1 (N := 8) rfl rfl (by decide) (Nat.le_of_ble_eq_true rfl) (Nat.le_of_ble_eq_true rfl) ⟨Nat.le_of_ble_eq_true rfl, Nat.le_of_ble_eq_true rfl⟩ (dc tbX1_copyFrom_1_k 19 rfl) e20 (fun H locs hI => ?_)
  refine lv_aload_n hx hb (dc tbX1_copyFrom_1_k 20 rfl) rfl (lv_at hl 0 rfl) ?_
  refine lv_aload_n hx hb (dc tbX1_copyFrom_1_k 21 rfl) rfl (lv_at hl 1 rfl) ?_
  refine gg1_13 hx hb hts hown hK hI hk1.1 q_t1_126 (dc tbX1_copyFrom_1_k 22 rfl) ?_
  obtain ⟨M21, e22, hf⟩ := bnd_s hf
  refine gp1_13 hx hb hts hown hK hap hI hk0.1 q_t1_126 (dc tbX1_copyFrom_1_k 23 rfl) e22 (fun H locs hI => ?_)
  refine lv_aload_n hx hb (dc tbX1_copyFrom_1_k 24 rfl) rfl (lv_at hl 0 rfl) ?_
  refine lv_aload_n hx hb (dc tbX1_copyFrom_1_k 25 rfl) rfl (lv_at hl 1 rfl) ?_
  refine gg1_14 hx hb hts hown hK hI hk1.1 q_t1_129 (dc tbX1_copyFrom_1_k 26 rfl) ?_
  obtain ⟨M23, e24, hf⟩ := bnd_s hf
  refine gp1_14 hx hb hts hown hK hap hI hk0.1 q_t1_129 (dc tbX1_copyFrom_1_k 27 rfl) e24 (fun H locs hI => ?_)
  refine lv_aload_n hx hb (dc tbX1_copyFrom_1_k 28 rfl) rfl (lv_at hl 1 rfl) ?_
  refine gg1_15 hx hb hts hown hK hI hk1.1 q_t1_131 (dc tbX1_copyFrom_1_k 29 rfl) ?_
  refine lv_iconst (v := 0) hx hb (dc tbX1_copyFrom_1_k 30 rfl) ic_0 ?_
  refine lv_aload_n hx hb (dc tbX1_copyFrom_1_k 31 rfl) rfl (lv_at hl 0 rfl) ?_
  refine gg1_15 hx hb hts hown hK hI hk0.1 q_t1_131 (dc tbX1_copyFrom_1_k 32 rfl) ?_
  refine lv_iconst (v := 0) hx hb (dc tbX1_copyFrom_1_k 33 rfl) ic_0 ?_
  refine lv_bipush (v := 8) hx hb (dc tbX1_copyFrom_1_k 34 rfl) bp_8 ?_
  obtain ⟨M25, e26, hf⟩ := bnd_s hf
  refine g_copy hx hb (hml.trans hl.1.symm) hown (hts _ q_t3_87) (hts _ q_t3_89) (hts _ q_t3_88) (hts _ q_t1_20) hK hap hI hk1.2.2.2.2.2.1 hk0.2.2.2.2.2.1 (N := 8) rfl rfl (by decide) (Nat.le_of_ble_eq_true rfl) (Nat.le_of_ble_eq_true rfl) ⟨Nat.le_of_ble_eq_true rfl, Nat.le_of_ble_eq_true rfl⟩ (dc tbX1_copyFrom_1_k 35 rfl) e26 (fun H locs hI => ?_)
  refine lv_aload_n hx hb (dc tbX1_copyFrom_1_k 36 rfl) rfl (lv_at hl 1 rfl) ?_
  refine gg1_16 hx hb hts hown hK hI hk1.1 q_t1_133 (dc tbX1_copyFrom_1_k 37 rfl) ?_
  refine lv_iconst (v := 0) hx hb (dc tbX1_copyFrom_1_k 38 rfl) ic_0 ?_
  refine lv_aload_n hx hb (dc tbX1_copyFrom_1_k 39 rfl) rfl (lv_at hl 0 rfl) ?_
  refine gg1_16 hx hb hts hown hK hI hk0.1 q_t1_133 (dc tbX1_copyFrom_2_k 0 rfl) ?_
  refine lv_iconst (v := 0) hx hb (dc tbX1_copyFrom_2_k 1 rfl) ic_0 ?_
  refine lv_bipush (v := 8) hx hb (dc tbX1_copyFrom_2_k 2 rfl) bp_8 ?_
  obtain ⟨M27, e28, hf⟩ := bnd_s hf
  refine g_copy hx hb (hml.trans hl.1.symm) hown (hts _ q_t3_87) (hts _ q_t3_89) (hts _ q_t3_88) (hts _ q_t1_20) hK hap hI hk1.2.2.2.2.2.2.1 hk0.2.2.2.2.2.2.1 (N := 8) rfl rfl (by decide) (Nat.le_of_ble_eq_true rfl) (Nat.le_of_ble_eq_true rfl) ⟨Nat.le_of_ble_eq_true rfl, Nat.le_of_ble_eq_true rfl⟩ (dc tbX1_copyFrom_2_k 3 rfl) e28 (fun H locs hI => ?_)
  refine lv_aload_n hx hb (dc tbX1_copyFrom_2_k 4 rfl) rfl (lv_at hl 1 rfl) ?_
  refine gg1_17 hx hb hts hown hK hI hk1.1 q_t1_135 (dc tbX1_copyFrom_2_k 5 rfl) ?_
  refine lv_iconst (v := 0) hx hb (dc tbX1_copyFrom_2_k 6 rfl) ic_0 ?_
  refine lv_aload_n hx hb (dc tbX1_copyFrom_2_k 7 rfl) rfl (lv_at hl 0 rfl) ?_
  refine gg1_17 hx hb hts hown hK hI hk0.1 q_t1_135 (dc tbX1_copyFrom_2_k 8 rfl) ?_
  refine lv_iconst (v := 0) hx hb (dc tbX1_copyFrom_2_k 9 rfl) ic_0 ?_
  refine lv_bipush (v := 8) hx hb (dc tbX1_copyFrom_2_k 10 rfl) bp_8 ?_
  obtain ⟨M29, e30, hf⟩ := bnd_s hf
  refine g_copy hx hb (hml.trans hl.1.symm) hown (hts _ q_t3_87) (hts _ q_t3_89) (hts _ q_t3_88) (hts _ q_t1_20) hK hap hI hk1.2.2.2.2.2.2.2 hk0.2.2.2.2.2.2.2 (N := 8) rfl rfl (by decide) (Nat.le_of_ble_eq_true rfl) (Nat.le_of_ble_eq_true rfl) ⟨Nat.le_of_ble_eq_true rfl, Nat.le_of_ble_eq_true rfl⟩ (dc tbX1_copyFrom_2_k 11 rfl) e30 (fun H locs hI => ?_)
  cases hf
  exact g_vret hx hb hr hlk hI (dc tbX1_copyFrom_2_k 12 rfl)
theorem cv_X1_copyFrom : cvF RX1 yX1_copyFrom cX1_copyFrom 2 none 1 := ⟨q_t3_84, q_t3_85, q_t1_3, q_t3_86, by decide +kernel⟩
def mX1_addBack (k0 : Nat) (x1 : Int32) (x2 : Int32) (M : Mem) : Option (Mem × Unit) := ite2 ((8 : Int32) ≤ (rd M k0 10)) (some (M, ())) (chk (okb (rd M k0 10) 8) (bnd (wr M (k0 + 3) ((rd M k0 10)).toNatClampNeg x1) (fun M4 => chk (okb (rd M4 k0 10) 8) (bnd (wr M4 (k0 + 4) ((rd M4 k0 10)).toNatClampNeg x2) (fun M7 => bnd (wr M7 k0 10 ((rd M7 k0 10) + (1 : Int32))) (fun M8 => some (M8, ())))))))
set_option maxHeartbeats 4000000 in
set_option maxRecDepth 100000 in
theorem tX1_addBack (l : Launch) {G : GT} {kd : Nat → Nat × Nat} {ad : Nat → Nat} {k0 : Nat} (hk0 : kPart kd k0) {x1 : Int32} {x2 : Int32} {M : Mem} {MO : Mem} {vo : Unit} (hf : mX1_addBack k0 x1 x2 M = some (MO, vo)) (n : Nat) : Met l yX1_addBack (Cond.code yX1_addBack cX1_addBack 3 none :: WA) (rmO 0 0 0) (Pg G kd ad n [.ref (ad k0), .int x1, .int x2] M) (Qg G kd ad n MO none) 0 0 (AS kd ad n) := by
  refine g_body (own := RX1) (by decide) rfl ?_ (Nat.le_of_ble_eq_true rfl)
  intro p e s m args below meth c C _ H locs ls hI hl
  obtain ⟨hx, hb, hml, hr, hown, hts, hlk, hK, hap, hsx⟩ := id C
  have hl : lv_has ls 3 [(0, .ref (ad k0)), (1, .int x1), (2, .int x2)] := hl
  unfold mX1_addBack at hf
  refine lv_aload_n hx hb (dc tbX1_addBack_k 0 rfl) rfl (lv_at hl 0 rfl) ?_
  refine gg1_10 hx hb hts hown hK hI hk0.1 q_t1_122 (dc tbX1_addBack_k 1 rfl) ?_
  refine lv_bipush (v := 8) hx hb (dc tbX1_addBack_k 2 rfl) bp_8 ?_
  refine lv_icmp_ge (tgt := 39) hx hb (dc tbX1_addBack_k 3 rfl) rfl (fun c1 => ?_) (fun c1 => ?_)
  · have hf := ite_t c1 hf
    cases hf
    exact g_vret hx hb hr hlk hI (dc tbX1_addBack_k 22 rfl)
  · have hf := ite_f c1 hf
    refine lv_aload_n hx hb (dc tbX1_addBack_k 4 rfl) rfl (lv_at hl 0 rfl) ?_
    refine gg1_11 hx hb hts hown hK hI hk0.1 q_t1_124 (dc tbX1_addBack_k 5 rfl) ?_
    refine lv_aload_n hx hb (dc tbX1_addBack_k 6 rfl) rfl (lv_at hl 0 rfl) ?_
    refine gg1_10 hx hb hts hown hK hI hk0.1 q_t1_122 (dc tbX1_addBack_k 7 rfl) ?_
    refine lv_iload_n hx hb (dc tbX1_addBack_k 8 rfl) rfl (lv_at hl 1 rfl) ?_
    obtain ⟨h2, hf⟩ := chk_s hf
    obtain ⟨M4, e3, hf⟩ := bnd_s hf
    refine g_iast hx hb hK hap hI hk0.2.2.2.1 (okb_in h2) (dc tbX1_addBack_k 9 rfl) e3 (fun H locs hI => ?_)
    refine lv_aload_n hx hb (dc tbX1_addBack_k 10 rfl) rfl (lv_at hl 0 rfl) ?_
    refine gg1_12 hx hb hts hown hK hI hk0.1 q_t1_125 (dc tbX1_addBack_k 11 rfl) ?_
    refine lv_aload_n hx hb (dc tbX1_addBack_k 12 rfl) rfl (lv_at hl 0 rfl) ?_
    refine gg1_10 hx hb hts hown hK hI hk0.1 q_t1_122 (dc tbX1_addBack_k 13 rfl) ?_
    refine lv_iload_n hx hb (dc tbX1_addBack_k 14 rfl) rfl (lv_at hl 2 rfl) ?_
    obtain ⟨h5, hf⟩ := chk_s hf
    obtain ⟨M7, e6, hf⟩ := bnd_s hf
    refine g_iast hx hb hK hap hI hk0.2.2.2.2.1 (okb_in h5) (dc tbX1_addBack_k 15 rfl) e6 (fun H locs hI => ?_)
    refine lv_aload_n hx hb (dc tbX1_addBack_k 16 rfl) rfl (lv_at hl 0 rfl) ?_
    refine lv_dup hx hb (dc tbX1_addBack_k 17 rfl) rfl ?_
    refine gg1_10 hx hb hts hown hK hI hk0.1 q_t1_122 (dc tbX1_addBack_k 18 rfl) ?_
    refine lv_iconst (v := 1) hx hb (dc tbX1_addBack_k 19 rfl) ic_1 ?_
    refine lv_iadd hx hb (dc tbX1_addBack_k 20 rfl) ?_
    obtain ⟨M8, e9, hf⟩ := bnd_s hf
    refine gp1_10 hx hb hts hown hK hap hI hk0.1 q_t1_122 (dc tbX1_addBack_k 21 rfl) e9 (fun H locs hI => ?_)
    cases hf
    exact g_vret hx hb hr hlk hI (dc tbX1_addBack_k 22 rfl)
theorem cv_X1_addBack : cvF RX1 yX1_addBack cX1_addBack 3 none 2 := ⟨q_t5_235, q_t5_236, q_t1_3, q_t5_237, by decide +kernel⟩
def mX1_lastBackRatio (k0 : Nat) (M : Mem) : Option Int32 := ite2 ((rd M k0 10) ≤ 0) (some (-1 : Int32)) (chk (okb ((rd M k0 10) - (1 : Int32)) 8) (some (rd M (k0 + 3) (((rd M k0 10) - (1 : Int32))).toNatClampNeg)))
set_option maxHeartbeats 4000000 in
set_option maxRecDepth 100000 in
theorem tX1_lastBackRatio (l : Launch) {G : GT} {kd : Nat → Nat × Nat} {ad : Nat → Nat} {k0 : Nat} (hk0 : kPart kd k0) {M : Mem} {vo : Int32} (hf : mX1_lastBackRatio k0 M = some vo) (n : Nat) : Met l yX1_lastBackRatio (Cond.code yX1_lastBackRatio cX1_lastBackRatio 1 (some .int) :: WA) (rmO 0 0 0) (Pg G kd ad n [.ref (ad k0)] M) (Qg G kd ad n M (some (.int vo))) 0 0 (AS kd ad n) := by
  refine g_body (own := RX1) (by decide) rfl ?_ (Nat.le_of_ble_eq_true rfl)
  intro p e s m args below meth c C _ H locs ls hI hl
  obtain ⟨hx, hb, hml, hr, hown, hts, hlk, hK, hap, hsx⟩ := id C
  have hl : lv_has ls 1 [(0, .ref (ad k0))] := hl
  unfold mX1_lastBackRatio at hf
  refine lv_aload_n hx hb (dc tbX1_lastBackRatio_k 0 rfl) rfl (lv_at hl 0 rfl) ?_
  refine gg1_10 hx hb hts hown hK hI hk0.1 q_t1_122 (dc tbX1_lastBackRatio_k 1 rfl) ?_
  refine lv_if_le (tgt := 21) hx hb (dc tbX1_lastBackRatio_k 2 rfl) rfl (fun c1 => ?_) (fun c1 => ?_)
  · have hf := ite_t c1 hf
    refine lv_iconst (v := -1) hx hb (dc tbX1_lastBackRatio_k 11 rfl) ic_m1 ?_
    cases hf
    exact g_iret hx hb hr hlk hI (dc tbX1_lastBackRatio_k 12 rfl)
  · have hf := ite_f c1 hf
    refine lv_aload_n hx hb (dc tbX1_lastBackRatio_k 3 rfl) rfl (lv_at hl 0 rfl) ?_
    refine gg1_11 hx hb hts hown hK hI hk0.1 q_t1_124 (dc tbX1_lastBackRatio_k 4 rfl) ?_
    refine lv_aload_n hx hb (dc tbX1_lastBackRatio_k 5 rfl) rfl (lv_at hl 0 rfl) ?_
    refine gg1_10 hx hb hts hown hK hI hk0.1 q_t1_122 (dc tbX1_lastBackRatio_k 6 rfl) ?_
    refine lv_iconst (v := 1) hx hb (dc tbX1_lastBackRatio_k 7 rfl) ic_1 ?_
    refine lv_isub hx hb (dc tbX1_lastBackRatio_k 8 rfl) ?_
    obtain ⟨h2, hf⟩ := chk_s hf
    refine g_iald hx hb hK hI hk0.2.2.2.1 (okb_in h2) (dc tbX1_lastBackRatio_k 9 rfl) ?_
    refine lv_goto (tgt := 22) hx hb (dc tbX1_lastBackRatio_k 10 rfl) rfl ?_
    cases hf
    exact g_iret hx hb hr hlk hI (dc tbX1_lastBackRatio_k 12 rfl)
theorem cv_X1_lastBackRatio : cvF RX1 yX1_lastBackRatio cX1_lastBackRatio 1 (some .int) 0 := ⟨q_t5_205, q_t5_206, q_t1_3, q_t5_207, by decide +kernel⟩
def mX1_addLeg_b47 (k0 : Nat) (M : Mem) : Option (Mem × Unit) := bnd (wr M k0 0 ((rd M k0 0) + (1 : Int32))) (fun M6 => some (M6, ()))
set_option maxHeartbeats 4000000 in
set_option maxRecDepth 100000 in
theorem tX1_addLeg_b47 {p : Program} {l : Launch} {e : Env} {s : State} {m : MethodId} {args : Array Value} {below : List Frame} {meth : Method} {c : Code} {G : GT} {kd : Nat → Nat × Nat} {ad : Nat → Nat} (C : Cx p s m args meth c cX1_addLeg 3 none RX1 G kd ad) {k0 : Nat} (hk0 : kPart kd k0) {MO : Mem} {vo : Unit}   : ∀  (M : Mem), mX1_addLeg_b47 k0 M = some (MO, vo) → At p l e (rmO 0 0 0) s m args below meth c 0 0 (MQ below (Qg G kd ad s.heap.size MO none) args s 0 0 (AS kd ad s.heap.size)) G kd ad 3 47 [(0, .ref (ad k0))] [] M := by
  intro M hf H locs ls hI hl
  obtain ⟨hx, hb, hml, hr, hown, hts, hlk, hK, hap, hsx⟩ := id C
  unfold mX1_addLeg_b47 at hf
  refine lv_aload_n hx hb (dc tbX1_addLeg_k 26 rfl) rfl (lv_at hl 0 rfl) ?_
  refine lv_dup hx hb (dc tbX1_addLeg_k 27 rfl) rfl ?_
  refine gg1_0 hx hb hts hown hK hI hk0.1 q_t1_101 (dc tbX1_addLeg_k 28 rfl) ?_
  refine lv_iconst (v := 1) hx hb (dc tbX1_addLeg_k 29 rfl) ic_1 ?_
  refine lv_iadd hx hb (dc tbX1_addLeg_k 30 rfl) ?_
  obtain ⟨M6, e7, hf⟩ := bnd_s hf
  refine gp1_0 hx hb hts hown hK hap hI hk0.1 q_t1_101 (dc tbX1_addLeg_k 31 rfl) e7 (fun H locs hI => ?_)
  cases hf
  exact g_vret hx hb hr hlk hI (dc tbX1_addLeg_k 32 rfl)
def mX1_addLeg (k0 : Nat) (x1 : Int32) (x2 : Int32) (M : Mem) : Option (Mem × Unit) := ite2 ((9 : Int32) ≤ (rd M k0 0)) (some (M, ())) (chk (okb (rd M k0 0) 9) (bnd (wr M (k0 + 1) ((rd M k0 0)).toNatClampNeg x1) (fun M4 => ite2 ((rd M4 k0 0) ≤ 0) (mX1_addLeg_b47 k0 M4) (ite2 (x2 = 0) (mX1_addLeg_b47 k0 M4) (bnd (wr M4 k0 2 ((rd M4 k0 2) ||| ((1 : Int32) <<< (((rd M4 k0 0) - (1 : Int32)) &&& 31)))) (fun M9 => mX1_addLeg_b47 k0 M9))))))
set_option maxHeartbeats 4000000 in
set_option maxRecDepth 100000 in
theorem tX1_addLeg (l : Launch) {G : GT} {kd : Nat → Nat × Nat} {ad : Nat → Nat} {k0 : Nat} (hk0 : kPart kd k0) {x1 : Int32} {x2 : Int32} {M : Mem} {MO : Mem} {vo : Unit} (hf : mX1_addLeg k0 x1 x2 M = some (MO, vo)) (n : Nat) : Met l yX1_addLeg (Cond.code yX1_addLeg cX1_addLeg 3 none :: WA) (rmO 0 0 0) (Pg G kd ad n [.ref (ad k0), .int x1, .int x2] M) (Qg G kd ad n MO none) 0 0 (AS kd ad n) := by
  refine g_body (own := RX1) (by decide) rfl ?_ (Nat.le_of_ble_eq_true rfl)
  intro p e s m args below meth c C _ H locs ls hI hl
  obtain ⟨hx, hb, hml, hr, hown, hts, hlk, hK, hap, hsx⟩ := id C
  have hl : lv_has ls 3 [(0, .ref (ad k0)), (1, .int x1), (2, .int x2)] := hl
  unfold mX1_addLeg at hf
  refine lv_aload_n hx hb (dc tbX1_addLeg_k 0 rfl) rfl (lv_at hl 0 rfl) ?_
  refine gg1_0 hx hb hts hown hK hI hk0.1 q_t1_101 (dc tbX1_addLeg_k 1 rfl) ?_
  refine lv_bipush (v := 9) hx hb (dc tbX1_addLeg_k 2 rfl) bp_9 ?_
  refine lv_icmp_ge (tgt := 57) hx hb (dc tbX1_addLeg_k 3 rfl) rfl (fun c1 => ?_) (fun c1 => ?_)
  · have hf := ite_t c1 hf
    cases hf
    exact g_vret hx hb hr hlk hI (dc tbX1_addLeg_k 32 rfl)
  · have hf := ite_f c1 hf
    refine lv_aload_n hx hb (dc tbX1_addLeg_k 4 rfl) rfl (lv_at hl 0 rfl) ?_
    refine gg1_1 hx hb hts hown hK hI hk0.1 q_t1_105 (dc tbX1_addLeg_k 5 rfl) ?_
    refine lv_aload_n hx hb (dc tbX1_addLeg_k 6 rfl) rfl (lv_at hl 0 rfl) ?_
    refine gg1_0 hx hb hts hown hK hI hk0.1 q_t1_101 (dc tbX1_addLeg_k 7 rfl) ?_
    refine lv_iload_n hx hb (dc tbX1_addLeg_k 8 rfl) rfl (lv_at hl 1 rfl) ?_
    obtain ⟨h2, hf⟩ := chk_s hf
    obtain ⟨M4, e3, hf⟩ := bnd_s hf
    refine g_iast hx hb hK hap hI hk0.2.1 (okb_in h2) (dc tbX1_addLeg_k 9 rfl) e3 (fun H locs hI => ?_)
    refine lv_aload_n hx hb (dc tbX1_addLeg_k 10 rfl) rfl (lv_at hl 0 rfl) ?_
    refine gg1_0 hx hb hts hown hK hI hk0.1 q_t1_101 (dc tbX1_addLeg_k 11 rfl) ?_
    refine lv_if_le (tgt := 47) hx hb (dc tbX1_addLeg_k 12 rfl) rfl (fun c5 => ?_) (fun c5 => ?_)
    · have hf := ite_t c5 hf
      exact tX1_addLeg_b47 C hk0 M4 hf _ _ _ hI (lv_sub hl [0] rfl)
    · have hf := ite_f c5 hf
      refine lv_iload_n hx hb (dc tbX1_addLeg_k 13 rfl) rfl (lv_at hl 2 rfl) ?_
      refine lv_if_eq (tgt := 47) hx hb (dc tbX1_addLeg_k 14 rfl) rfl (fun c8 => ?_) (fun c8 => ?_)
      · have hf := ite_t c8 hf
        exact tX1_addLeg_b47 C hk0 M4 hf _ _ _ hI (lv_sub hl [0] rfl)
      · have hf := ite_f c8 hf
        refine lv_aload_n hx hb (dc tbX1_addLeg_k 15 rfl) rfl (lv_at hl 0 rfl) ?_
        refine lv_dup hx hb (dc tbX1_addLeg_k 16 rfl) rfl ?_
        refine gg1_2 hx hb hts hown hK hI hk0.1 q_t1_108 (dc tbX1_addLeg_k 17 rfl) ?_
        refine lv_iconst (v := 1) hx hb (dc tbX1_addLeg_k 18 rfl) ic_1 ?_
        refine lv_aload_n hx hb (dc tbX1_addLeg_k 19 rfl) rfl (lv_at hl 0 rfl) ?_
        refine gg1_0 hx hb hts hown hK hI hk0.1 q_t1_101 (dc tbX1_addLeg_k 20 rfl) ?_
        refine lv_iconst (v := 1) hx hb (dc tbX1_addLeg_k 21 rfl) ic_1 ?_
        refine lv_isub hx hb (dc tbX1_addLeg_k 22 rfl) ?_
        refine lv_ishl hx hb (dc tbX1_addLeg_k 23 rfl) ?_
        refine lv_ior hx hb (dc tbX1_addLeg_k 24 rfl) ?_
        obtain ⟨M9, e10, hf⟩ := bnd_s hf
        refine gp1_2 hx hb hts hown hK hap hI hk0.1 q_t1_108 (dc tbX1_addLeg_k 25 rfl) e10 (fun H locs hI => ?_)
        exact tX1_addLeg_b47 C hk0 M9 hf _ _ _ hI (lv_sub hl [0] rfl)
theorem cv_X1_addLeg : cvF RX1 yX1_addLeg cX1_addLeg 3 none 2 := ⟨q_t6_0, q_t6_1, q_t1_3, q_t6_2, by decide +kernel⟩
def mX1_bendCount (k0 : Nat) (M : Mem) : Option Int32 := ite2 ((rd M k0 0) ≤ 0) (some (0 : Int32)) (some ((rd M k0 0) - (1 : Int32)))
set_option maxHeartbeats 4000000 in
set_option maxRecDepth 100000 in
theorem tX1_bendCount (l : Launch) {G : GT} {kd : Nat → Nat × Nat} {ad : Nat → Nat} {k0 : Nat} (hk0 : kPart kd k0) {M : Mem} {vo : Int32} (hf : mX1_bendCount k0 M = some vo) (n : Nat) : Met l yX1_bendCount (Cond.code yX1_bendCount cX1_bendCount 1 (some .int) :: WA) (rmO 0 0 0) (Pg G kd ad n [.ref (ad k0)] M) (Qg G kd ad n M (some (.int vo))) 0 0 (AS kd ad n) := by
  refine g_body (own := RX1) (by decide) rfl ?_ (Nat.le_of_ble_eq_true rfl)
  intro p e s m args below meth c C _ H locs ls hI hl
  obtain ⟨hx, hb, hml, hr, hown, hts, hlk, hK, hap, hsx⟩ := id C
  have hl : lv_has ls 1 [(0, .ref (ad k0))] := hl
  unfold mX1_bendCount at hf
  refine lv_aload_n hx hb (dc tbX1_bendCount_k 0 rfl) rfl (lv_at hl 0 rfl) ?_
  refine gg1_0 hx hb hts hown hK hI hk0.1 q_t1_101 (dc tbX1_bendCount_k 1 rfl) ?_
  refine lv_if_le (tgt := 16) hx hb (dc tbX1_bendCount_k 2 rfl) rfl (fun c1 => ?_) (fun c1 => ?_)
  · have hf := ite_t c1 hf
    refine lv_iconst (v := 0) hx hb (dc tbX1_bendCount_k 8 rfl) ic_0 ?_
    cases hf
    exact g_iret hx hb hr hlk hI (dc tbX1_bendCount_k 9 rfl)
  · have hf := ite_f c1 hf
    refine lv_aload_n hx hb (dc tbX1_bendCount_k 3 rfl) rfl (lv_at hl 0 rfl) ?_
    refine gg1_0 hx hb hts hown hK hI hk0.1 q_t1_101 (dc tbX1_bendCount_k 4 rfl) ?_
    refine lv_iconst (v := 1) hx hb (dc tbX1_bendCount_k 5 rfl) ic_1 ?_
    refine lv_isub hx hb (dc tbX1_bendCount_k 6 rfl) ?_
    refine lv_goto (tgt := 17) hx hb (dc tbX1_bendCount_k 7 rfl) rfl ?_
    cases hf
    exact g_iret hx hb hr hlk hI (dc tbX1_bendCount_k 9 rfl)
theorem cv_X1_bendCount : cvF RX1 yX1_bendCount cX1_bendCount 1 (some .int) 0 := ⟨q_t2_131, q_t2_132, q_t1_3, q_t2_133, by decide +kernel⟩
def mX1_allBends (k0 : Nat) (M : Mem) : Option Int32 := cap (mX1_bendCount k0 M) (fun r2 => some (((1 : Int32) <<< (r2 &&& 31)) - (1 : Int32)))
set_option maxHeartbeats 4000000 in
set_option maxRecDepth 100000 in
theorem tX1_allBends (l : Launch) {G : GT} {kd : Nat → Nat × Nat} {ad : Nat → Nat} {k0 : Nat} (hk0 : kPart kd k0) {M : Mem} {vo : Int32} (hf : mX1_allBends k0 M = some vo) (n : Nat) : Met l yX1_allBends (Cond.code yX1_allBends cX1_allBends 1 (some .int) :: WA) (rmO 1 0 0) (Pg G kd ad n [.ref (ad k0)] M) (Qg G kd ad n M (some (.int vo))) 0 0 (AS kd ad n) := by
  refine g_body (own := RX1) (by decide) rfl ?_ (Nat.le_of_ble_eq_true rfl)
  intro p e s m args below meth c C _ H locs ls hI hl
  obtain ⟨hx, hb, hml, hr, hown, hts, hlk, hK, hap, hsx⟩ := id C
  have hl : lv_has ls 1 [(0, .ref (ad k0))] := hl
  unfold mX1_allBends at hf
  refine lv_iconst (v := 1) hx hb (dc tbX1_allBends_k 0 rfl) ic_1 ?_
  refine lv_aload_n hx hb (dc tbX1_allBends_k 1 rfl) rfl (lv_at hl 0 rfl) ?_
  obtain ⟨r2, q1, hf⟩ := cap_s hf
  refine g_callVi hx hb hml hown hts hK hap hsx hI (tX1_bendCount l hk0 q1 H.size) cv_X1_bendCount q_t2_194 rfl rfl ⟨Nat.le_of_ble_eq_true rfl, Nat.le_of_ble_eq_true rfl⟩ hk0.1 (by simp) rfl rfl rfl hl.1 rfl (Nat.le_of_ble_eq_true rfl) (dc tbX1_allBends_k 2 rfl) ⟨Nat.le_of_ble_eq_true rfl, Nat.le_of_ble_eq_true rfl⟩ (fun H locs hI => ?_)
  refine lv_ishl hx hb (dc tbX1_allBends_k 3 rfl) ?_
  refine lv_iconst (v := 1) hx hb (dc tbX1_allBends_k 4 rfl) ic_1 ?_
  refine lv_isub hx hb (dc tbX1_allBends_k 5 rfl) ?_
  cases hf
  exact g_iret hx hb hr hlk hI (dc tbX1_allBends_k 6 rfl)
theorem cv_X1_allBends : cvF RX1 yX1_allBends cX1_allBends 1 (some .int) 0 := ⟨q_t2_191, q_t2_192, q_t1_3, q_t2_193, by decide +kernel⟩
def mX1_goesUp (k0 : Nat) (x1 : Int32) (M : Mem) : Option Int32 := ite2 ((((rd M k0 2) >>> (x1 &&& 31)) &&& (1 : Int32)) = 0) (some (0 : Int32)) (some (1 : Int32))
set_option maxHeartbeats 4000000 in
set_option maxRecDepth 100000 in
theorem tX1_goesUp (l : Launch) {G : GT} {kd : Nat → Nat × Nat} {ad : Nat → Nat} {k0 : Nat} (hk0 : kPart kd k0) {x1 : Int32} {M : Mem} {vo : Int32} (hf : mX1_goesUp k0 x1 M = some vo) (n : Nat) : Met l yX1_goesUp (Cond.code yX1_goesUp cX1_goesUp 2 (some .boolean) :: WA) (rmO 0 0 0) (Pg G kd ad n [.ref (ad k0), .int x1] M) (Qg G kd ad n M (some (.int vo))) 0 0 (AS kd ad n) := by
  refine g_body (own := RX1) (by decide) rfl ?_ (Nat.le_of_ble_eq_true rfl)
  intro p e s m args below meth c C _ H locs ls hI hl
  obtain ⟨hx, hb, hml, hr, hown, hts, hlk, hK, hap, hsx⟩ := id C
  have hl : lv_has ls 2 [(0, .ref (ad k0)), (1, .int x1)] := hl
  unfold mX1_goesUp at hf
  refine lv_aload_n hx hb (dc tbX1_goesUp_k 0 rfl) rfl (lv_at hl 0 rfl) ?_
  refine gg1_2 hx hb hts hown hK hI hk0.1 q_t1_108 (dc tbX1_goesUp_k 1 rfl) ?_
  refine lv_iload_n hx hb (dc tbX1_goesUp_k 2 rfl) rfl (lv_at hl 1 rfl) ?_
  refine lv_ishr hx hb (dc tbX1_goesUp_k 3 rfl) ?_
  refine lv_iconst (v := 1) hx hb (dc tbX1_goesUp_k 4 rfl) ic_1 ?_
  refine lv_iand hx hb (dc tbX1_goesUp_k 5 rfl) ?_
  refine lv_if_eq (tgt := 15) hx hb (dc tbX1_goesUp_k 6 rfl) rfl (fun c1 => ?_) (fun c1 => ?_)
  · have hf := ite_t c1 hf
    refine lv_iconst (v := 0) hx hb (dc tbX1_goesUp_k 9 rfl) ic_0 ?_
    cases hf
    exact g_zret hx hb hr hlk hI rfl (dc tbX1_goesUp_k 10 rfl)
  · have hf := ite_f c1 hf
    refine lv_iconst (v := 1) hx hb (dc tbX1_goesUp_k 7 rfl) ic_1 ?_
    refine lv_goto (tgt := 16) hx hb (dc tbX1_goesUp_k 8 rfl) rfl ?_
    cases hf
    exact g_zret hx hb hr hlk hI rfl (dc tbX1_goesUp_k 10 rfl)
theorem cv_X1_goesUp : cvF RX1 yX1_goesUp cX1_goesUp 2 (some .boolean) 1 := ⟨q_t2_233, q_t2_234, q_t1_3, q_t2_235, by decide +kernel⟩
def mX1_sumOfLegs_b4 (k0 : Nat) (M : Mem) (ih4 : Int32 → Int32 → Int32 → Option Int32) (x1 : Int32) (x2 : Int32) (x3 : Int32) : Option Int32 := ite2 (x1 ≤ x3) (some x2) (ite2 ((9 : Int32) ≤ x3) (some x2) (chk (okb x3 9) (bnd ((x2 + (rd M (k0 + 1) (x3).toNatClampNeg))) (fun x2_23 => bnd (x3 + (1 : Int32)) (fun x3_24 => ih4 x1 x2_23 x3_24)))))
set_option maxHeartbeats 4000000 in
set_option maxRecDepth 100000 in
theorem tX1_sumOfLegs_b4 {p : Program} {l : Launch} {e : Env} {s : State} {m : MethodId} {args : Array Value} {below : List Frame} {meth : Method} {c : Code} {G : GT} {kd : Nat → Nat × Nat} {ad : Nat → Nat} (C : Cx p s m args meth c cX1_sumOfLegs 4 (some .int) RX1 G kd ad) {k0 : Nat} (hk0 : kPart kd k0) {M : Mem} {vo : Int32} {ih4 : Int32 → Int32 → Int32 → Option Int32} (hih4 : ∀ (x1 : Int32) (x2 : Int32) (x3 : Int32), ih4 x1 x2 x3 = some vo → At p l e (rmO 0 0 0) s m args below meth c 0 0 (MQ below (Qg G kd ad s.heap.size M (some (.int vo))) args s 0 0 (AS kd ad s.heap.size)) G kd ad 4 4 [(0, .ref (ad k0)), (1, .int x1), (2, .int x2), (3, .int x3)] [] M) : ∀ (x1 : Int32) (x2 : Int32) (x3 : Int32), mX1_sumOfLegs_b4 k0 M ih4 x1 x2 x3 = some vo → At p l e (rmO 0 0 0) s m args below meth c 0 0 (MQ below (Qg G kd ad s.heap.size M (some (.int vo))) args s 0 0 (AS kd ad s.heap.size)) G kd ad 4 4 [(0, .ref (ad k0)), (1, .int x1), (2, .int x2), (3, .int x3)] [] M := by
  intro x1 x2 x3 hf H locs ls hI hl
  obtain ⟨hx, hb, hml, hr, hown, hts, hlk, hK, hap, hsx⟩ := id C
  unfold mX1_sumOfLegs_b4 at hf
  refine lv_iload_n hx hb (dc tbX1_sumOfLegs_k 4 rfl) rfl (lv_at hl 3 rfl) ?_
  refine lv_iload_n hx hb (dc tbX1_sumOfLegs_k 5 rfl) rfl (lv_at hl 1 rfl) ?_
  refine lv_icmp_ge (tgt := 30) hx hb (dc tbX1_sumOfLegs_k 6 rfl) rfl (fun c1 => ?_) (fun c1 => ?_)
  · have hf := ite_t c1 hf
    refine lv_iload_n hx hb (dc tbX1_sumOfLegs_k 19 rfl) rfl (lv_at hl 2 rfl) ?_
    cases hf
    exact g_iret hx hb hr hlk hI (dc tbX1_sumOfLegs_k 20 rfl)
  · have hf := ite_f c1 hf
    refine lv_iload_n hx hb (dc tbX1_sumOfLegs_k 7 rfl) rfl (lv_at hl 3 rfl) ?_
    refine lv_bipush (v := 9) hx hb (dc tbX1_sumOfLegs_k 8 rfl) bp_9 ?_
    refine lv_icmp_ge (tgt := 30) hx hb (dc tbX1_sumOfLegs_k 9 rfl) rfl (fun c2 => ?_) (fun c2 => ?_)
    · have hf := ite_t c2 hf
      refine lv_iload_n hx hb (dc tbX1_sumOfLegs_k 19 rfl) rfl (lv_at hl 2 rfl) ?_
      cases hf
      exact g_iret hx hb hr hlk hI (dc tbX1_sumOfLegs_k 20 rfl)
    · have hf := ite_f c2 hf
      refine lv_iload_n hx hb (dc tbX1_sumOfLegs_k 10 rfl) rfl (lv_at hl 2 rfl) ?_
      refine lv_aload_n hx hb (dc tbX1_sumOfLegs_k 11 rfl) rfl (lv_at hl 0 rfl) ?_
      refine gg1_1 hx hb hts hown hK hI hk0.1 q_t1_105 (dc tbX1_sumOfLegs_k 12 rfl) ?_
      refine lv_iload_n hx hb (dc tbX1_sumOfLegs_k 13 rfl) rfl (lv_at hl 3 rfl) ?_
      obtain ⟨h3, hf⟩ := chk_s hf
      refine g_iald hx hb hK hI hk0.2.1 (okb_in h3) (dc tbX1_sumOfLegs_k 14 rfl) ?_
      refine lv_iadd hx hb (dc tbX1_sumOfLegs_k 15 rfl) ?_
      obtain ⟨x2_23, e4, hf⟩ := bnd_s hf
      refine lv_ei e4 ?_
      refine lv_istore_n (lv' := [(2, .int x2_23), (0, .ref (ad k0)), (1, .int x1), (3, .int x3)]) hx hb (dc tbX1_sumOfLegs_k 16 rfl) rfl hl (by decide) rfl (fun ls hl => ?_)
      obtain ⟨x3_24, e5, hf⟩ := bnd_s hf
      refine lv_iinc (v := x3_24) (lv' := [(3, .int x3_24), (2, .int x2_23), (0, .ref (ad k0)), (1, .int x1)]) hx hb (dc tbX1_sumOfLegs_k 17 rfl) hl (k := 3) rfl (ii_e e5 ic_1) (by decide) rfl (fun ls hl => ?_)
      refine lv_goto (tgt := 4) hx hb (dc tbX1_sumOfLegs_k 18 rfl) rfl ?_
      exact hih4 x1 x2_23 x3_24 hf _ _ _ hI (lv_sub hl [2, 3, 1, 0] rfl)
def mX1_sumOfLegs_l4 (k0 : Nat) (M : Mem) : Nat → Int32 → Int32 → Int32 → Option Int32
  | 0 => fun _ _ _ => none
  | n + 1 => mX1_sumOfLegs_b4 k0 M (mX1_sumOfLegs_l4 k0 M n)
theorem tX1_sumOfLegs_l4 {p : Program} {l : Launch} {e : Env} {s : State} {m : MethodId} {args : Array Value} {below : List Frame} {meth : Method} {c : Code} {G : GT} {kd : Nat → Nat × Nat} {ad : Nat → Nat} (C : Cx p s m args meth c cX1_sumOfLegs 4 (some .int) RX1 G kd ad) {k0 : Nat} (hk0 : kPart kd k0) {M : Mem} {vo : Int32}   : ∀ (fuel : Nat) (x1 : Int32) (x2 : Int32) (x3 : Int32), mX1_sumOfLegs_l4 k0 M fuel x1 x2 x3 = some vo → At p l e (rmO 0 0 0) s m args below meth c 0 0 (MQ below (Qg G kd ad s.heap.size M (some (.int vo))) args s 0 0 (AS kd ad s.heap.size)) G kd ad 4 4 [(0, .ref (ad k0)), (1, .int x1), (2, .int x2), (3, .int x3)] [] M := by
  intro fuel
  induction fuel with
  | zero => intro x1 x2 x3 hf; cases hf
  | succ n IH => exact tX1_sumOfLegs_b4 C hk0 IH
def mX1_sumOfLegs (k0 : Nat) (x1 : Int32) (M : Mem) : Option Int32 := mX1_sumOfLegs_l4 k0 M 5000 x1 (0 : Int32) (0 : Int32)
set_option maxHeartbeats 4000000 in
set_option maxRecDepth 100000 in
theorem tX1_sumOfLegs (l : Launch) {G : GT} {kd : Nat → Nat × Nat} {ad : Nat → Nat} {k0 : Nat} (hk0 : kPart kd k0) {x1 : Int32} {M : Mem} {vo : Int32} (hf : mX1_sumOfLegs k0 x1 M = some vo) (n : Nat) : Met l yX1_sumOfLegs (Cond.code yX1_sumOfLegs cX1_sumOfLegs 4 (some .int) :: WA) (rmO 0 0 0) (Pg G kd ad n [.ref (ad k0), .int x1] M) (Qg G kd ad n M (some (.int vo))) 0 0 (AS kd ad n) := by
  refine g_body (own := RX1) (by decide) rfl ?_ (Nat.le_of_ble_eq_true rfl)
  intro p e s m args below meth c C _ H locs ls hI hl
  obtain ⟨hx, hb, hml, hr, hown, hts, hlk, hK, hap, hsx⟩ := id C
  have hl : lv_has ls 4 [(0, .ref (ad k0)), (1, .int x1)] := hl
  unfold mX1_sumOfLegs at hf
  refine lv_iconst (v := 0) hx hb (dc tbX1_sumOfLegs_k 0 rfl) ic_0 ?_
  refine lv_istore_n (lv' := [(2, .int (0 : Int32)), (0, .ref (ad k0)), (1, .int x1)]) hx hb (dc tbX1_sumOfLegs_k 1 rfl) rfl hl (by decide) rfl (fun ls hl => ?_)
  refine lv_iconst (v := 0) hx hb (dc tbX1_sumOfLegs_k 2 rfl) ic_0 ?_
  refine lv_istore_n (lv' := [(3, .int (0 : Int32)), (2, .int (0 : Int32)), (0, .ref (ad k0)), (1, .int x1)]) hx hb (dc tbX1_sumOfLegs_k 3 rfl) rfl hl (by decide) rfl (fun ls hl => ?_)
  exact tX1_sumOfLegs_l4 C hk0 5000 x1 (0 : Int32) (0 : Int32) hf _ _ _ hI (lv_sub hl [2, 3, 1, 0] rfl)
theorem cv_X1_sumOfLegs : cvF RX1 yX1_sumOfLegs cX1_sumOfLegs 4 (some .int) 1 := ⟨q_t2_154, q_t2_155, q_t1_3, q_t2_156, by decide +kernel⟩
def mX1_isSameFromOtherEnd_b48 (k0 : Nat) (M : Mem) (ih48 : Int32 → Option Int32) (x1 : Int32) : Option Int32 := cap (mX1_bendCount k0 M) (fun r3 => ite2 (r3 ≤ x1) (some (1 : Int32)) (cap (mX1_goesUp k0 x1 M) (fun r7 => cap (mX1_bendCount k0 M) (fun r10 => cap (mX1_goesUp k0 ((r10 - (1 : Int32)) - x1) M) (fun r13 => ite2 (r7 = r13) (bnd (x1 + (1 : Int32)) (fun x1_78 => ih48 x1_78)) (some (0 : Int32)))))))
set_option maxHeartbeats 4000000 in
set_option maxRecDepth 100000 in
theorem tX1_isSameFromOtherEnd_b48 {p : Program} {l : Launch} {e : Env} {s : State} {m : MethodId} {args : Array Value} {below : List Frame} {meth : Method} {c : Code} {G : GT} {kd : Nat → Nat × Nat} {ad : Nat → Nat} (C : Cx p s m args meth c cX1_isSameFromOtherEnd 2 (some .boolean) RX1 G kd ad) {k0 : Nat} (hk0 : kPart kd k0) {M : Mem} {vo : Int32} {ih48 : Int32 → Option Int32} (hih48 : ∀ (x1 : Int32), ih48 x1 = some vo → At p l e (rmO 1 0 0) s m args below meth c 0 0 (MQ below (Qg G kd ad s.heap.size M (some (.int vo))) args s 0 0 (AS kd ad s.heap.size)) G kd ad 2 48 [(0, .ref (ad k0)), (1, .int x1)] [] M) : ∀ (x1 : Int32), mX1_isSameFromOtherEnd_b48 k0 M ih48 x1 = some vo → At p l e (rmO 1 0 0) s m args below meth c 0 0 (MQ below (Qg G kd ad s.heap.size M (some (.int vo))) args s 0 0 (AS kd ad s.heap.size)) G kd ad 2 48 [(0, .ref (ad k0)), (1, .int x1)] [] M := by
  intro x1 hf H locs ls hI hl
  obtain ⟨hx, hb, hml, hr, hown, hts, hlk, hK, hap, hsx⟩ := id C
  unfold mX1_isSameFromOtherEnd_b48 at hf
  refine lv_iload_n hx hb (dc tbX1_isSameFromOtherEnd_0_k 29 rfl) rfl (lv_at hl 1 rfl) ?_
  refine lv_aload_n hx hb (dc tbX1_isSameFromOtherEnd_0_k 30 rfl) rfl (lv_at hl 0 rfl) ?_
  obtain ⟨r3, q2, hf⟩ := cap_s hf
  refine g_callVi hx hb hml hown hts hK hap hsx hI (tX1_bendCount l hk0 q2 H.size) cv_X1_bendCount q_t2_194 rfl rfl ⟨Nat.le_of_ble_eq_true rfl, Nat.le_of_ble_eq_true rfl⟩ hk0.1 (by simp) rfl rfl rfl hl.1 rfl (Nat.le_of_ble_eq_true rfl) (dc tbX1_isSameFromOtherEnd_0_k 31 rfl) ⟨Nat.le_of_ble_eq_true rfl, Nat.le_of_ble_eq_true rfl⟩ (fun H locs hI => ?_)
  refine lv_icmp_ge (tgt := 84) hx hb (dc tbX1_isSameFromOtherEnd_0_k 32 rfl) rfl (fun c5 => ?_) (fun c5 => ?_)
  · have hf := ite_t c5 hf
    refine lv_iconst (v := 1) hx hb (dc tbX1_isSameFromOtherEnd_1_k 9 rfl) ic_1 ?_
    cases hf
    exact g_zret hx hb hr hlk hI rfl (dc tbX1_isSameFromOtherEnd_1_k 10 rfl)
  · have hf := ite_f c5 hf
    refine lv_aload_n hx hb (dc tbX1_isSameFromOtherEnd_0_k 33 rfl) rfl (lv_at hl 0 rfl) ?_
    refine lv_iload_n hx hb (dc tbX1_isSameFromOtherEnd_0_k 34 rfl) rfl (lv_at hl 1 rfl) ?_
    obtain ⟨r7, q6, hf⟩ := cap_s hf
    refine g_callVi hx hb hml hown hts hK hap hsx hI (tX1_goesUp l hk0 q6 H.size) cv_X1_goesUp q_t2_232 rfl rfl ⟨Nat.le_of_ble_eq_true rfl, Nat.le_of_ble_eq_true rfl⟩ hk0.1 (by simp) rfl rfl rfl hl.1 rfl (Nat.le_of_ble_eq_true rfl) (dc tbX1_isSameFromOtherEnd_0_k 35 rfl) ⟨Nat.le_of_ble_eq_true rfl, Nat.le_of_ble_eq_true rfl⟩ (fun H locs hI => ?_)
    refine lv_aload_n hx hb (dc tbX1_isSameFromOtherEnd_0_k 36 rfl) rfl (lv_at hl 0 rfl) ?_
    refine lv_aload_n hx hb (dc tbX1_isSameFromOtherEnd_0_k 37 rfl) rfl (lv_at hl 0 rfl) ?_
    obtain ⟨r10, q9, hf⟩ := cap_s hf
    refine g_callVi hx hb hml hown hts hK hap hsx hI (tX1_bendCount l hk0 q9 H.size) cv_X1_bendCount q_t2_194 rfl rfl ⟨Nat.le_of_ble_eq_true rfl, Nat.le_of_ble_eq_true rfl⟩ hk0.1 (by simp) rfl rfl rfl hl.1 rfl (Nat.le_of_ble_eq_true rfl) (dc tbX1_isSameFromOtherEnd_0_k 38 rfl) ⟨Nat.le_of_ble_eq_true rfl, Nat.le_of_ble_eq_true rfl⟩ (fun H locs hI => ?_)
    refine lv_iconst (v := 1) hx hb (dc tbX1_isSameFromOtherEnd_0_k 39 rfl) ic_1 ?_
    refine lv_isub hx hb (dc tbX1_isSameFromOtherEnd_1_k 0 rfl) ?_
    refine lv_iload_n hx hb (dc tbX1_isSameFromOtherEnd_1_k 1 rfl) rfl (lv_at hl 1 rfl) ?_
    refine lv_isub hx hb (dc tbX1_isSameFromOtherEnd_1_k 2 rfl) ?_
    obtain ⟨r13, q12, hf⟩ := cap_s hf
    refine g_callVi hx hb hml hown hts hK hap hsx hI (tX1_goesUp l hk0 q12 H.size) cv_X1_goesUp q_t2_232 rfl rfl ⟨Nat.le_of_ble_eq_true rfl, Nat.le_of_ble_eq_true rfl⟩ hk0.1 (by simp) rfl rfl rfl hl.1 rfl (Nat.le_of_ble_eq_true rfl) (dc tbX1_isSameFromOtherEnd_1_k 3 rfl) ⟨Nat.le_of_ble_eq_true rfl, Nat.le_of_ble_eq_true rfl⟩ (fun H locs hI => ?_)
    refine lv_icmp_eq (tgt := 78) hx hb (dc tbX1_isSameFromOtherEnd_1_k 4 rfl) rfl (fun c15 => ?_) (fun c15 => ?_)
    · have hf := ite_t c15 hf
      obtain ⟨x1_78, e16, hf⟩ := bnd_s hf
      refine lv_iinc (v := x1_78) (lv' := [(1, .int x1_78), (0, .ref (ad k0))]) hx hb (dc tbX1_isSameFromOtherEnd_1_k 7 rfl) hl (k := 1) rfl (ii_e e16 ic_1) (by decide) rfl (fun ls hl => ?_)
      refine lv_goto (tgt := 48) hx hb (dc tbX1_isSameFromOtherEnd_1_k 8 rfl) rfl ?_
      exact hih48 x1_78 hf _ _ _ hI (lv_sub hl [1, 0] rfl)
    · have hf := ite_f c15 hf
      refine lv_iconst (v := 0) hx hb (dc tbX1_isSameFromOtherEnd_1_k 5 rfl) ic_0 ?_
      cases hf
      exact g_zret hx hb hr hlk hI rfl (dc tbX1_isSameFromOtherEnd_1_k 6 rfl)
def mX1_isSameFromOtherEnd_l48 (k0 : Nat) (M : Mem) : Nat → Int32 → Option Int32
  | 0 => fun _ => none
  | n + 1 => mX1_isSameFromOtherEnd_b48 k0 M (mX1_isSameFromOtherEnd_l48 k0 M n)
theorem tX1_isSameFromOtherEnd_l48 {p : Program} {l : Launch} {e : Env} {s : State} {m : MethodId} {args : Array Value} {below : List Frame} {meth : Method} {c : Code} {G : GT} {kd : Nat → Nat × Nat} {ad : Nat → Nat} (C : Cx p s m args meth c cX1_isSameFromOtherEnd 2 (some .boolean) RX1 G kd ad) {k0 : Nat} (hk0 : kPart kd k0) {M : Mem} {vo : Int32}   : ∀ (fuel : Nat) (x1 : Int32), mX1_isSameFromOtherEnd_l48 k0 M fuel x1 = some vo → At p l e (rmO 1 0 0) s m args below meth c 0 0 (MQ below (Qg G kd ad s.heap.size M (some (.int vo))) args s 0 0 (AS kd ad s.heap.size)) G kd ad 2 48 [(0, .ref (ad k0)), (1, .int x1)] [] M := by
  intro fuel
  induction fuel with
  | zero => intro x1 hf; cases hf
  | succ n IH => exact tX1_isSameFromOtherEnd_b48 C hk0 IH
def mX1_isSameFromOtherEnd_b46 (k0 : Nat) (M : Mem) : Option Int32 := mX1_isSameFromOtherEnd_l48 k0 M 5000 (0 : Int32)
set_option maxHeartbeats 4000000 in
set_option maxRecDepth 100000 in
theorem tX1_isSameFromOtherEnd_b46 {p : Program} {l : Launch} {e : Env} {s : State} {m : MethodId} {args : Array Value} {below : List Frame} {meth : Method} {c : Code} {G : GT} {kd : Nat → Nat × Nat} {ad : Nat → Nat} (C : Cx p s m args meth c cX1_isSameFromOtherEnd 2 (some .boolean) RX1 G kd ad) {k0 : Nat} (hk0 : kPart kd k0) {M : Mem} {vo : Int32}   : mX1_isSameFromOtherEnd_b46 k0 M = some vo → At p l e (rmO 1 0 0) s m args below meth c 0 0 (MQ below (Qg G kd ad s.heap.size M (some (.int vo))) args s 0 0 (AS kd ad s.heap.size)) G kd ad 2 46 [(0, .ref (ad k0))] [] M := by
  intro hf H locs ls hI hl
  obtain ⟨hx, hb, hml, hr, hown, hts, hlk, hK, hap, hsx⟩ := id C
  unfold mX1_isSameFromOtherEnd_b46 at hf
  refine lv_iconst (v := 0) hx hb (dc tbX1_isSameFromOtherEnd_0_k 27 rfl) ic_0 ?_
  refine lv_istore_n (lv' := [(1, .int (0 : Int32)), (0, .ref (ad k0))]) hx hb (dc tbX1_isSameFromOtherEnd_0_k 28 rfl) rfl hl (by decide) rfl (fun ls hl => ?_)
  exact tX1_isSameFromOtherEnd_l48 C hk0 5000 (0 : Int32) hf _ _ _ hI (lv_sub hl [1, 0] rfl)
def mX1_isSameFromOtherEnd_b2 (k0 : Nat) (M : Mem) (ih2 : Int32 → Option Int32) (x1 : Int32) : Option Int32 := ite2 ((rd M k0 0) ≤ x1) (mX1_isSameFromOtherEnd_b46 k0 M) (ite2 ((9 : Int32) ≤ x1) (mX1_isSameFromOtherEnd_b46 k0 M) (chk (okb x1 9) (chk (okb (((rd M k0 0) - (1 : Int32)) - x1) 9) (ite2 ((rd M (k0 + 1) (x1).toNatClampNeg) = (rd M (k0 + 1) ((((rd M k0 0) - (1 : Int32)) - x1)).toNatClampNeg)) (bnd (x1 + (1 : Int32)) (fun x1_40 => ih2 x1_40)) (some (0 : Int32))))))
set_option maxHeartbeats 4000000 in
set_option maxRecDepth 100000 in
theorem tX1_isSameFromOtherEnd_b2 {p : Program} {l : Launch} {e : Env} {s : State} {m : MethodId} {args : Array Value} {below : List Frame} {meth : Method} {c : Code} {G : GT} {kd : Nat → Nat × Nat} {ad : Nat → Nat} (C : Cx p s m args meth c cX1_isSameFromOtherEnd 2 (some .boolean) RX1 G kd ad) {k0 : Nat} (hk0 : kPart kd k0) {M : Mem} {vo : Int32} {ih2 : Int32 → Option Int32} (hih2 : ∀ (x1 : Int32), ih2 x1 = some vo → At p l e (rmO 1 0 0) s m args below meth c 0 0 (MQ below (Qg G kd ad s.heap.size M (some (.int vo))) args s 0 0 (AS kd ad s.heap.size)) G kd ad 2 2 [(0, .ref (ad k0)), (1, .int x1)] [] M) : ∀ (x1 : Int32), mX1_isSameFromOtherEnd_b2 k0 M ih2 x1 = some vo → At p l e (rmO 1 0 0) s m args below meth c 0 0 (MQ below (Qg G kd ad s.heap.size M (some (.int vo))) args s 0 0 (AS kd ad s.heap.size)) G kd ad 2 2 [(0, .ref (ad k0)), (1, .int x1)] [] M := by
  intro x1 hf H locs ls hI hl
  obtain ⟨hx, hb, hml, hr, hown, hts, hlk, hK, hap, hsx⟩ := id C
  unfold mX1_isSameFromOtherEnd_b2 at hf
  refine lv_iload_n hx hb (dc tbX1_isSameFromOtherEnd_0_k 2 rfl) rfl (lv_at hl 1 rfl) ?_
  refine lv_aload_n hx hb (dc tbX1_isSameFromOtherEnd_0_k 3 rfl) rfl (lv_at hl 0 rfl) ?_
  refine gg1_0 hx hb hts hown hK hI hk0.1 q_t1_101 (dc tbX1_isSameFromOtherEnd_0_k 4 rfl) ?_
  refine lv_icmp_ge (tgt := 46) hx hb (dc tbX1_isSameFromOtherEnd_0_k 5 rfl) rfl (fun c1 => ?_) (fun c1 => ?_)
  · have hf := ite_t c1 hf
    exact tX1_isSameFromOtherEnd_b46 C hk0 hf _ _ _ hI (lv_sub hl [0] rfl)
  · have hf := ite_f c1 hf
    refine lv_iload_n hx hb (dc tbX1_isSameFromOtherEnd_0_k 6 rfl) rfl (lv_at hl 1 rfl) ?_
    refine lv_bipush (v := 9) hx hb (dc tbX1_isSameFromOtherEnd_0_k 7 rfl) bp_9 ?_
    refine lv_icmp_ge (tgt := 46) hx hb (dc tbX1_isSameFromOtherEnd_0_k 8 rfl) rfl (fun c17 => ?_) (fun c17 => ?_)
    · have hf := ite_t c17 hf
      exact tX1_isSameFromOtherEnd_b46 C hk0 hf _ _ _ hI (lv_sub hl [0] rfl)
    · have hf := ite_f c17 hf
      refine lv_aload_n hx hb (dc tbX1_isSameFromOtherEnd_0_k 9 rfl) rfl (lv_at hl 0 rfl) ?_
      refine gg1_1 hx hb hts hown hK hI hk0.1 q_t1_105 (dc tbX1_isSameFromOtherEnd_0_k 10 rfl) ?_
      refine lv_iload_n hx hb (dc tbX1_isSameFromOtherEnd_0_k 11 rfl) rfl (lv_at hl 1 rfl) ?_
      obtain ⟨h18, hf⟩ := chk_s hf
      refine g_iald hx hb hK hI hk0.2.1 (okb_in h18) (dc tbX1_isSameFromOtherEnd_0_k 12 rfl) ?_
      refine lv_aload_n hx hb (dc tbX1_isSameFromOtherEnd_0_k 13 rfl) rfl (lv_at hl 0 rfl) ?_
      refine gg1_1 hx hb hts hown hK hI hk0.1 q_t1_105 (dc tbX1_isSameFromOtherEnd_0_k 14 rfl) ?_
      refine lv_aload_n hx hb (dc tbX1_isSameFromOtherEnd_0_k 15 rfl) rfl (lv_at hl 0 rfl) ?_
      refine gg1_0 hx hb hts hown hK hI hk0.1 q_t1_101 (dc tbX1_isSameFromOtherEnd_0_k 16 rfl) ?_
      refine lv_iconst (v := 1) hx hb (dc tbX1_isSameFromOtherEnd_0_k 17 rfl) ic_1 ?_
      refine lv_isub hx hb (dc tbX1_isSameFromOtherEnd_0_k 18 rfl) ?_
      refine lv_iload_n hx hb (dc tbX1_isSameFromOtherEnd_0_k 19 rfl) rfl (lv_at hl 1 rfl) ?_
      refine lv_isub hx hb (dc tbX1_isSameFromOtherEnd_0_k 20 rfl) ?_
      obtain ⟨h19, hf⟩ := chk_s hf
      refine g_iald hx hb hK hI hk0.2.1 (okb_in h19) (dc tbX1_isSameFromOtherEnd_0_k 21 rfl) ?_
      refine lv_icmp_eq (tgt := 40) hx hb (dc tbX1_isSameFromOtherEnd_0_k 22 rfl) rfl (fun c20 => ?_) (fun c20 => ?_)
      · have hf := ite_t c20 hf
        obtain ⟨x1_40, e21, hf⟩ := bnd_s hf
        refine lv_iinc (v := x1_40) (lv' := [(1, .int x1_40), (0, .ref (ad k0))]) hx hb (dc tbX1_isSameFromOtherEnd_0_k 25 rfl) hl (k := 1) rfl (ii_e e21 ic_1) (by decide) rfl (fun ls hl => ?_)
        refine lv_goto (tgt := 2) hx hb (dc tbX1_isSameFromOtherEnd_0_k 26 rfl) rfl ?_
        exact hih2 x1_40 hf _ _ _ hI (lv_sub hl [1, 0] rfl)
      · have hf := ite_f c20 hf
        refine lv_iconst (v := 0) hx hb (dc tbX1_isSameFromOtherEnd_0_k 23 rfl) ic_0 ?_
        cases hf
        exact g_zret hx hb hr hlk hI rfl (dc tbX1_isSameFromOtherEnd_0_k 24 rfl)
def mX1_isSameFromOtherEnd_l2 (k0 : Nat) (M : Mem) : Nat → Int32 → Option Int32
  | 0 => fun _ => none
  | n + 1 => mX1_isSameFromOtherEnd_b2 k0 M (mX1_isSameFromOtherEnd_l2 k0 M n)
theorem tX1_isSameFromOtherEnd_l2 {p : Program} {l : Launch} {e : Env} {s : State} {m : MethodId} {args : Array Value} {below : List Frame} {meth : Method} {c : Code} {G : GT} {kd : Nat → Nat × Nat} {ad : Nat → Nat} (C : Cx p s m args meth c cX1_isSameFromOtherEnd 2 (some .boolean) RX1 G kd ad) {k0 : Nat} (hk0 : kPart kd k0) {M : Mem} {vo : Int32}   : ∀ (fuel : Nat) (x1 : Int32), mX1_isSameFromOtherEnd_l2 k0 M fuel x1 = some vo → At p l e (rmO 1 0 0) s m args below meth c 0 0 (MQ below (Qg G kd ad s.heap.size M (some (.int vo))) args s 0 0 (AS kd ad s.heap.size)) G kd ad 2 2 [(0, .ref (ad k0)), (1, .int x1)] [] M := by
  intro fuel
  induction fuel with
  | zero => intro x1 hf; cases hf
  | succ n IH => exact tX1_isSameFromOtherEnd_b2 C hk0 IH
def mX1_isSameFromOtherEnd (k0 : Nat) (M : Mem) : Option Int32 := mX1_isSameFromOtherEnd_l2 k0 M 5000 (0 : Int32)
set_option maxHeartbeats 4000000 in
set_option maxRecDepth 100000 in
theorem tX1_isSameFromOtherEnd (l : Launch) {G : GT} {kd : Nat → Nat × Nat} {ad : Nat → Nat} {k0 : Nat} (hk0 : kPart kd k0) {M : Mem} {vo : Int32} (hf : mX1_isSameFromOtherEnd k0 M = some vo) (n : Nat) : Met l yX1_isSameFromOtherEnd (Cond.code yX1_isSameFromOtherEnd cX1_isSameFromOtherEnd 2 (some .boolean) :: WA) (rmO 1 0 0) (Pg G kd ad n [.ref (ad k0)] M) (Qg G kd ad n M (some (.int vo))) 0 0 (AS kd ad n) := by
  refine g_body (own := RX1) (by decide) rfl ?_ (Nat.le_of_ble_eq_true rfl)
  intro p e s m args below meth c C _ H locs ls hI hl
  obtain ⟨hx, hb, hml, hr, hown, hts, hlk, hK, hap, hsx⟩ := id C
  have hl : lv_has ls 2 [(0, .ref (ad k0))] := hl
  unfold mX1_isSameFromOtherEnd at hf
  refine lv_iconst (v := 0) hx hb (dc tbX1_isSameFromOtherEnd_0_k 0 rfl) ic_0 ?_
  refine lv_istore_n (lv' := [(1, .int (0 : Int32)), (0, .ref (ad k0))]) hx hb (dc tbX1_isSameFromOtherEnd_0_k 1 rfl) rfl hl (by decide) rfl (fun ls hl => ?_)
  exact tX1_isSameFromOtherEnd_l2 C hk0 5000 (0 : Int32) hf _ _ _ hI (lv_sub hl [1, 0] rfl)
theorem cv_X1_isSameFromOtherEnd : cvF RX1 yX1_isSameFromOtherEnd cX1_isSameFromOtherEnd 2 (some .boolean) 0 := ⟨q_t2_229, q_t2_230, q_t1_3, q_t2_231, by decide +kernel⟩
def mX1_deductionOfBend (k0 : Nat) (M : Mem) : Option UInt64 := chk (n64b (FP.dmul (4611686018427387904 : UInt64) (FP.i2d ((rd M k0 4) + (rd M k0 3))))) (chk (n64b (FP.ddiv (FP.i2d (rd M k0 5)) (4636737291354636288 : UInt64))) (chk (n64b (FP.dmul (FP.ddiv (FP.i2d (rd M k0 5)) (4636737291354636288 : UInt64)) (FP.i2d (rd M k0 3)))) (chk (n64b (FP.dadd (FP.i2d (rd M k0 4)) (FP.dmul (FP.ddiv (FP.i2d (rd M k0 5)) (4636737291354636288 : UInt64)) (FP.i2d (rd M k0 3))))) (chk (n64b (FP.dmul (4609753073467320487 : UInt64) (FP.dadd (FP.i2d (rd M k0 4)) (FP.dmul (FP.ddiv (FP.i2d (rd M k0 5)) (4636737291354636288 : UInt64)) (FP.i2d (rd M k0 3)))))) (chk (n64b (FP.dsub (FP.dmul (4611686018427387904 : UInt64) (FP.i2d ((rd M k0 4) + (rd M k0 3)))) (FP.dmul (4609753073467320487 : UInt64) (FP.dadd (FP.i2d (rd M k0 4)) (FP.dmul (FP.ddiv (FP.i2d (rd M k0 5)) (4636737291354636288 : UInt64)) (FP.i2d (rd M k0 3))))))) (some (FP.dsub (FP.dmul (4611686018427387904 : UInt64) (FP.i2d ((rd M k0 4) + (rd M k0 3)))) (FP.dmul (4609753073467320487 : UInt64) (FP.dadd (FP.i2d (rd M k0 4)) (FP.dmul (FP.ddiv (FP.i2d (rd M k0 5)) (4636737291354636288 : UInt64)) (FP.i2d (rd M k0 3))))))))))))
set_option maxHeartbeats 4000000 in
set_option maxRecDepth 100000 in
theorem tX1_deductionOfBend (l : Launch) {G : GT} {kd : Nat → Nat × Nat} {ad : Nat → Nat} {k0 : Nat} (hk0 : kPart kd k0) {M : Mem} {vo : UInt64} (hf : mX1_deductionOfBend k0 M = some vo) (n : Nat) : Met l yX1_deductionOfBend (Cond.code yX1_deductionOfBend cX1_deductionOfBend 1 (some .double) :: WA) (rmO 0 0 0) (Pg G kd ad n [.ref (ad k0)] M) (Qg G kd ad n M (some (.double vo))) 0 0 (AS kd ad n) := by
  refine g_body (own := RX1) (by decide) rfl ?_ (Nat.le_of_ble_eq_true rfl)
  intro p e s m args below meth c C _ H locs ls hI hl
  obtain ⟨hx, hb, hml, hr, hown, hts, hlk, hK, hap, hsx⟩ := id C
  have hl : lv_has ls 1 [(0, .ref (ad k0))] := hl
  unfold mX1_deductionOfBend at hf
  refine lv_ldc2d hx hb hown (hts _ q_t2_146) (dc tbX1_deductionOfBend_k 0 rfl) ?_
  refine lv_aload_n hx hb (dc tbX1_deductionOfBend_k 1 rfl) rfl (lv_at hl 0 rfl) ?_
  refine gg1_4 hx hb hts hown hK hI hk0.1 q_t1_113 (dc tbX1_deductionOfBend_k 2 rfl) ?_
  refine lv_aload_n hx hb (dc tbX1_deductionOfBend_k 3 rfl) rfl (lv_at hl 0 rfl) ?_
  refine gg1_3 hx hb hts hown hK hI hk0.1 q_t1_111 (dc tbX1_deductionOfBend_k 4 rfl) ?_
  refine lv_iadd hx hb (dc tbX1_deductionOfBend_k 5 rfl) ?_
  refine lv_i2d hx hb (dc tbX1_deductionOfBend_k 6 rfl) ?_
  obtain ⟨h1, hf⟩ := chk_s hf
  refine lv_dmul hx hb (dc tbX1_deductionOfBend_k 7 rfl) (n64_b h1) ?_
  refine lv_ldc2d hx hb hown (hts _ q_t2_147) (dc tbX1_deductionOfBend_k 8 rfl) ?_
  refine lv_aload_n hx hb (dc tbX1_deductionOfBend_k 9 rfl) rfl (lv_at hl 0 rfl) ?_
  refine gg1_4 hx hb hts hown hK hI hk0.1 q_t1_113 (dc tbX1_deductionOfBend_k 10 rfl) ?_
  refine lv_i2d hx hb (dc tbX1_deductionOfBend_k 11 rfl) ?_
  refine lv_aload_n hx hb (dc tbX1_deductionOfBend_k 12 rfl) rfl (lv_at hl 0 rfl) ?_
  refine gg1_5 hx hb hts hown hK hI hk0.1 q_t1_114 (dc tbX1_deductionOfBend_k 13 rfl) ?_
  refine lv_i2d hx hb (dc tbX1_deductionOfBend_k 14 rfl) ?_
  refine lv_ldc2d hx hb hown (hts _ q_t2_148) (dc tbX1_deductionOfBend_k 15 rfl) ?_
  obtain ⟨h2, hf⟩ := chk_s hf
  refine lv_ddiv hx hb (dc tbX1_deductionOfBend_k 16 rfl) (n64_b h2) ?_
  refine lv_aload_n hx hb (dc tbX1_deductionOfBend_k 17 rfl) rfl (lv_at hl 0 rfl) ?_
  refine gg1_3 hx hb hts hown hK hI hk0.1 q_t1_111 (dc tbX1_deductionOfBend_k 18 rfl) ?_
  refine lv_i2d hx hb (dc tbX1_deductionOfBend_k 19 rfl) ?_
  obtain ⟨h3, hf⟩ := chk_s hf
  refine lv_dmul hx hb (dc tbX1_deductionOfBend_k 20 rfl) (n64_b h3) ?_
  obtain ⟨h4, hf⟩ := chk_s hf
  refine lv_dadd hx hb (dc tbX1_deductionOfBend_k 21 rfl) (n64_b h4) ?_
  obtain ⟨h5, hf⟩ := chk_s hf
  refine lv_dmul hx hb (dc tbX1_deductionOfBend_k 22 rfl) (n64_b h5) ?_
  obtain ⟨h6, hf⟩ := chk_s hf
  refine lv_dsub hx hb (dc tbX1_deductionOfBend_k 23 rfl) (n64_b h6) ?_
  cases hf
  exact g_dret hx hb hr hlk hI (dc tbX1_deductionOfBend_k 24 rfl)
theorem cv_X1_deductionOfBend : cvF RX1 yX1_deductionOfBend cX1_deductionOfBend 1 (some .double) 0 := ⟨q_t2_143, q_t2_144, q_t1_3, q_t2_145, by decide +kernel⟩
def mX1_ratioOfSheet (k0 : Nat) (M : Mem) : Option UInt64 := ite2 ((rd M k0 3) ≤ 0) (some FP.dconst0) (chk (n64b (FP.dmul (4621819117588971520 : UInt64) (FP.i2d (rd M k0 4)))) (chk (n64b (FP.ddiv (FP.dmul (4621819117588971520 : UInt64) (FP.i2d (rd M k0 4))) (FP.i2d (rd M k0 3)))) (some (FP.ddiv (FP.dmul (4621819117588971520 : UInt64) (FP.i2d (rd M k0 4))) (FP.i2d (rd M k0 3))))))
set_option maxHeartbeats 4000000 in
set_option maxRecDepth 100000 in
theorem tX1_ratioOfSheet (l : Launch) {G : GT} {kd : Nat → Nat × Nat} {ad : Nat → Nat} {k0 : Nat} (hk0 : kPart kd k0) {M : Mem} {vo : UInt64} (hf : mX1_ratioOfSheet k0 M = some vo) (n : Nat) : Met l yX1_ratioOfSheet (Cond.code yX1_ratioOfSheet cX1_ratioOfSheet 1 (some .double) :: WA) (rmO 0 0 0) (Pg G kd ad n [.ref (ad k0)] M) (Qg G kd ad n M (some (.double vo))) 0 0 (AS kd ad n) := by
  refine g_body (own := RX1) (by decide) rfl ?_ (Nat.le_of_ble_eq_true rfl)
  intro p e s m args below meth c C _ H locs ls hI hl
  obtain ⟨hx, hb, hml, hr, hown, hts, hlk, hK, hap, hsx⟩ := id C
  have hl : lv_has ls 1 [(0, .ref (ad k0))] := hl
  unfold mX1_ratioOfSheet at hf
  refine lv_aload_n hx hb (dc tbX1_ratioOfSheet_k 0 rfl) rfl (lv_at hl 0 rfl) ?_
  refine gg1_3 hx hb hts hown hK hI hk0.1 q_t1_111 (dc tbX1_ratioOfSheet_k 1 rfl) ?_
  refine lv_if_le (tgt := 25) hx hb (dc tbX1_ratioOfSheet_k 2 rfl) rfl (fun c1 => ?_) (fun c1 => ?_)
  · have hf := ite_t c1 hf
    refine lv_dconst0 hx hb (dc tbX1_ratioOfSheet_k 13 rfl) ?_
    cases hf
    exact g_dret hx hb hr hlk hI (dc tbX1_ratioOfSheet_k 14 rfl)
  · have hf := ite_f c1 hf
    refine lv_ldc2d hx hb hown (hts _ q_t2_165) (dc tbX1_ratioOfSheet_k 3 rfl) ?_
    refine lv_aload_n hx hb (dc tbX1_ratioOfSheet_k 4 rfl) rfl (lv_at hl 0 rfl) ?_
    refine gg1_4 hx hb hts hown hK hI hk0.1 q_t1_113 (dc tbX1_ratioOfSheet_k 5 rfl) ?_
    refine lv_i2d hx hb (dc tbX1_ratioOfSheet_k 6 rfl) ?_
    obtain ⟨h2, hf⟩ := chk_s hf
    refine lv_dmul hx hb (dc tbX1_ratioOfSheet_k 7 rfl) (n64_b h2) ?_
    refine lv_aload_n hx hb (dc tbX1_ratioOfSheet_k 8 rfl) rfl (lv_at hl 0 rfl) ?_
    refine gg1_3 hx hb hts hown hK hI hk0.1 q_t1_111 (dc tbX1_ratioOfSheet_k 9 rfl) ?_
    refine lv_i2d hx hb (dc tbX1_ratioOfSheet_k 10 rfl) ?_
    obtain ⟨h3, hf⟩ := chk_s hf
    refine lv_ddiv hx hb (dc tbX1_ratioOfSheet_k 11 rfl) (n64_b h3) ?_
    refine lv_goto (tgt := 26) hx hb (dc tbX1_ratioOfSheet_k 12 rfl) rfl ?_
    cases hf
    exact g_dret hx hb hr hlk hI (dc tbX1_ratioOfSheet_k 14 rfl)
theorem cv_X1_ratioOfSheet : cvF RX1 yX1_ratioOfSheet cX1_ratioOfSheet 1 (some .double) 0 := ⟨q_t2_162, q_t2_163, q_t1_3, q_t2_164, by decide +kernel⟩
def mX1_springBackBetween (k0 : Nat) (x1 : Int32) (x2 : Int32) (x3 : UInt64) (M : Mem) : Option UInt64 := chk (okb x2 8) (chk (okb x1 8) (bnd ((FP.i2d ((rd M (k0 + 3) (x2).toNatClampNeg) - (rd M (k0 + 3) (x1).toNatClampNeg)))) (fun x5_14 => ite2 (0 < (Op.cmpValue (FP.dcmp x5_14 FP.dconst0) CmpOp.g)) (chk (okb x2 8) (chk (okb x1 8) (bnd ((FP.i2d ((rd M (k0 + 4) (x2).toNatClampNeg) - (rd M (k0 + 4) (x1).toNatClampNeg)))) (fun x7_45 => chk (okb x1 8) (chk (okb x1 8) (chk (n64b (FP.dsub x3 (FP.i2d (rd M (k0 + 3) (x1).toNatClampNeg)))) (chk (n64b (FP.dmul x7_45 (FP.dsub x3 (FP.i2d (rd M (k0 + 3) (x1).toNatClampNeg))))) (chk (n64b (FP.ddiv (FP.dmul x7_45 (FP.dsub x3 (FP.i2d (rd M (k0 + 3) (x1).toNatClampNeg)))) x5_14)) (chk (n64b (FP.dadd (FP.i2d (rd M (k0 + 4) (x1).toNatClampNeg)) (FP.ddiv (FP.dmul x7_45 (FP.dsub x3 (FP.i2d (rd M (k0 + 3) (x1).toNatClampNeg)))) x5_14))) (some (FP.dadd (FP.i2d (rd M (k0 + 4) (x1).toNatClampNeg)) (FP.ddiv (FP.dmul x7_45 (FP.dsub x3 (FP.i2d (rd M (k0 + 3) (x1).toNatClampNeg)))) x5_14)))))))))))) (chk (okb x1 8) (some (FP.i2d (rd M (k0 + 4) (x1).toNatClampNeg)))))))
set_option maxHeartbeats 4000000 in
set_option maxRecDepth 100000 in
theorem tX1_springBackBetween (l : Launch) {G : GT} {kd : Nat → Nat × Nat} {ad : Nat → Nat} {k0 : Nat} (hk0 : kPart kd k0) {x1 : Int32} {x2 : Int32} {x3 : UInt64} {M : Mem} {vo : UInt64} (hf : mX1_springBackBetween k0 x1 x2 x3 M = some vo) (n : Nat) : Met l yX1_springBackBetween (Cond.code yX1_springBackBetween cX1_springBackBetween 9 (some .double) :: WA) (rmO 0 0 0) (Pg G kd ad n [.ref (ad k0), .int x1, .int x2, .double x3] M) (Qg G kd ad n M (some (.double vo))) 0 0 (AS kd ad n) := by
  refine g_body (own := RX1) (by decide) rfl ?_ (Nat.le_of_ble_eq_true rfl)
  intro p e s m args below meth c C _ H locs ls hI hl
  obtain ⟨hx, hb, hml, hr, hown, hts, hlk, hK, hap, hsx⟩ := id C
  have hl : lv_has ls 9 [(0, .ref (ad k0)), (1, .int x1), (2, .int x2), (3, .double x3)] := hl
  unfold mX1_springBackBetween at hf
  refine lv_aload_n hx hb (dc tbX1_springBackBetween_0_k 0 rfl) rfl (lv_at hl 0 rfl) ?_
  refine gg1_11 hx hb hts hown hK hI hk0.1 q_t1_124 (dc tbX1_springBackBetween_0_k 1 rfl) ?_
  refine lv_iload_n hx hb (dc tbX1_springBackBetween_0_k 2 rfl) rfl (lv_at hl 2 rfl) ?_
  obtain ⟨h1, hf⟩ := chk_s hf
  refine g_iald hx hb hK hI hk0.2.2.2.1 (okb_in h1) (dc tbX1_springBackBetween_0_k 3 rfl) ?_
  refine lv_aload_n hx hb (dc tbX1_springBackBetween_0_k 4 rfl) rfl (lv_at hl 0 rfl) ?_
  refine gg1_11 hx hb hts hown hK hI hk0.1 q_t1_124 (dc tbX1_springBackBetween_0_k 5 rfl) ?_
  refine lv_iload_n hx hb (dc tbX1_springBackBetween_0_k 6 rfl) rfl (lv_at hl 1 rfl) ?_
  obtain ⟨h2, hf⟩ := chk_s hf
  refine g_iald hx hb hK hI hk0.2.2.2.1 (okb_in h2) (dc tbX1_springBackBetween_0_k 7 rfl) ?_
  refine lv_isub hx hb (dc tbX1_springBackBetween_0_k 8 rfl) ?_
  refine lv_i2d hx hb (dc tbX1_springBackBetween_0_k 9 rfl) ?_
  obtain ⟨x5_14, e3, hf⟩ := bnd_s hf
  refine lv_ed e3 ?_
  refine lv_dstore (lv' := [(5, .double x5_14), (0, .ref (ad k0)), (1, .int x1), (2, .int x2), (3, .double x3)]) hx hb (dc tbX1_springBackBetween_0_k 10 rfl) hl (by decide) rfl (fun ls hl => ?_)
  refine lv_dload hx hb (dc tbX1_springBackBetween_0_k 11 rfl) (lv_at hl 0 rfl) ?_
  refine lv_dconst0 hx hb (dc tbX1_springBackBetween_0_k 12 rfl) ?_
  refine lv_dcmp hx hb (dc tbX1_springBackBetween_0_k 13 rfl) ?_
  refine lv_if_gt (tgt := 31) hx hb (dc tbX1_springBackBetween_0_k 14 rfl) rfl (fun c4 => ?_) (fun c4 => ?_)
  · have hf := ite_t c4 hf
    refine lv_aload_n hx hb (dc tbX1_springBackBetween_0_k 21 rfl) rfl (lv_at hl 1 rfl) ?_
    refine gg1_12 hx hb hts hown hK hI hk0.1 q_t1_125 (dc tbX1_springBackBetween_0_k 22 rfl) ?_
    refine lv_iload_n hx hb (dc tbX1_springBackBetween_0_k 23 rfl) rfl (lv_at hl 3 rfl) ?_
    obtain ⟨h5, hf⟩ := chk_s hf
    refine g_iald hx hb hK hI hk0.2.2.2.2.1 (okb_in h5) (dc tbX1_springBackBetween_0_k 24 rfl) ?_
    refine lv_aload_n hx hb (dc tbX1_springBackBetween_0_k 25 rfl) rfl (lv_at hl 1 rfl) ?_
    refine gg1_12 hx hb hts hown hK hI hk0.1 q_t1_125 (dc tbX1_springBackBetween_0_k 26 rfl) ?_
    refine lv_iload_n hx hb (dc tbX1_springBackBetween_0_k 27 rfl) rfl (lv_at hl 2 rfl) ?_
    obtain ⟨h6, hf⟩ := chk_s hf
    refine g_iald hx hb hK hI hk0.2.2.2.2.1 (okb_in h6) (dc tbX1_springBackBetween_0_k 28 rfl) ?_
    refine lv_isub hx hb (dc tbX1_springBackBetween_0_k 29 rfl) ?_
    refine lv_i2d hx hb (dc tbX1_springBackBetween_0_k 30 rfl) ?_
    obtain ⟨x7_45, e7, hf⟩ := bnd_s hf
    refine lv_ed e7 ?_
    refine lv_dstore (lv' := [(7, .double x7_45), (5, .double x5_14), (0, .ref (ad k0)), (1, .int x1), (2, .int x2), (3, .double x3)]) hx hb (dc tbX1_springBackBetween_0_k 31 rfl) hl (by decide) rfl (fun ls hl => ?_)
    refine lv_aload_n hx hb (dc tbX1_springBackBetween_0_k 32 rfl) rfl (lv_at hl 2 rfl) ?_
    refine gg1_12 hx hb hts hown hK hI hk0.1 q_t1_125 (dc tbX1_springBackBetween_0_k 33 rfl) ?_
    refine lv_iload_n hx hb (dc tbX1_springBackBetween_0_k 34 rfl) rfl (lv_at hl 3 rfl) ?_
    obtain ⟨h8, hf⟩ := chk_s hf
    refine g_iald hx hb hK hI hk0.2.2.2.2.1 (okb_in h8) (dc tbX1_springBackBetween_0_k 35 rfl) ?_
    refine lv_i2d hx hb (dc tbX1_springBackBetween_0_k 36 rfl) ?_
    refine lv_dload hx hb (dc tbX1_springBackBetween_0_k 37 rfl) (lv_at hl 0 rfl) ?_
    refine lv_dload_n hx hb (dc tbX1_springBackBetween_0_k 38 rfl) rfl (lv_at hl 5 rfl) ?_
    refine lv_aload_n hx hb (dc tbX1_springBackBetween_0_k 39 rfl) rfl (lv_at hl 2 rfl) ?_
    refine gg1_11 hx hb hts hown hK hI hk0.1 q_t1_124 (dc tbX1_springBackBetween_1_k 0 rfl) ?_
    refine lv_iload_n hx hb (dc tbX1_springBackBetween_1_k 1 rfl) rfl (lv_at hl 3 rfl) ?_
    obtain ⟨h9, hf⟩ := chk_s hf
    refine g_iald hx hb hK hI hk0.2.2.2.1 (okb_in h9) (dc tbX1_springBackBetween_1_k 2 rfl) ?_
    refine lv_i2d hx hb (dc tbX1_springBackBetween_1_k 3 rfl) ?_
    obtain ⟨h10, hf⟩ := chk_s hf
    refine lv_dsub hx hb (dc tbX1_springBackBetween_1_k 4 rfl) (n64_b h10) ?_
    obtain ⟨h11, hf⟩ := chk_s hf
    refine lv_dmul hx hb (dc tbX1_springBackBetween_1_k 5 rfl) (n64_b h11) ?_
    refine lv_dload hx hb (dc tbX1_springBackBetween_1_k 6 rfl) (lv_at hl 1 rfl) ?_
    obtain ⟨h12, hf⟩ := chk_s hf
    refine lv_ddiv hx hb (dc tbX1_springBackBetween_1_k 7 rfl) (n64_b h12) ?_
    obtain ⟨h13, hf⟩ := chk_s hf
    refine lv_dadd hx hb (dc tbX1_springBackBetween_1_k 8 rfl) (n64_b h13) ?_
    cases hf
    exact g_dret hx hb hr hlk hI (dc tbX1_springBackBetween_1_k 9 rfl)
  · have hf := ite_f c4 hf
    refine lv_aload_n hx hb (dc tbX1_springBackBetween_0_k 15 rfl) rfl (lv_at hl 1 rfl) ?_
    refine gg1_12 hx hb hts hown hK hI hk0.1 q_t1_125 (dc tbX1_springBackBetween_0_k 16 rfl) ?_
    refine lv_iload_n hx hb (dc tbX1_springBackBetween_0_k 17 rfl) rfl (lv_at hl 2 rfl) ?_
    obtain ⟨h14, hf⟩ := chk_s hf
    refine g_iald hx hb hK hI hk0.2.2.2.2.1 (okb_in h14) (dc tbX1_springBackBetween_0_k 18 rfl) ?_
    refine lv_i2d hx hb (dc tbX1_springBackBetween_0_k 19 rfl) ?_
    cases hf
    exact g_dret hx hb hr hlk hI (dc tbX1_springBackBetween_0_k 20 rfl)
theorem cv_X1_springBackBetween : cvF RX1 yX1_springBackBetween cX1_springBackBetween 9 (some .double) 3 := ⟨q_t2_176, q_s1_2, q_t1_3, q_t2_177, by decide +kernel⟩
def mX1_springBackAt_b73 (k0 : Nat) (M : Mem) : Option UInt64 := chk (okb ((rd M k0 10) - (1 : Int32)) 8) (some (FP.i2d (rd M (k0 + 4) (((rd M k0 10) - (1 : Int32))).toNatClampNeg)))
set_option maxHeartbeats 4000000 in
set_option maxRecDepth 100000 in
theorem tX1_springBackAt_b73 {p : Program} {l : Launch} {e : Env} {s : State} {m : MethodId} {args : Array Value} {below : List Frame} {meth : Method} {c : Code} {G : GT} {kd : Nat → Nat × Nat} {ad : Nat → Nat} (C : Cx p s m args meth c cX1_springBackAt 4 (some .double) RX1 G kd ad) {k0 : Nat} (hk0 : kPart kd k0) {M : Mem} {vo : UInt64}   : mX1_springBackAt_b73 k0 M = some vo → At p l e (rmO 1 0 0) s m args below meth c 0 0 (MQ below (Qg G kd ad s.heap.size M (some (.double vo))) args s 0 0 (AS kd ad s.heap.size)) G kd ad 4 73 [(0, .ref (ad k0))] [] M := by
  intro hf H locs ls hI hl
  obtain ⟨hx, hb, hml, hr, hown, hts, hlk, hK, hap, hsx⟩ := id C
  unfold mX1_springBackAt_b73 at hf
  refine lv_aload_n hx hb (dc tbX1_springBackAt_1_k 6 rfl) rfl (lv_at hl 0 rfl) ?_
  refine gg1_12 hx hb hts hown hK hI hk0.1 q_t1_125 (dc tbX1_springBackAt_1_k 7 rfl) ?_
  refine lv_aload_n hx hb (dc tbX1_springBackAt_1_k 8 rfl) rfl (lv_at hl 0 rfl) ?_
  refine gg1_10 hx hb hts hown hK hI hk0.1 q_t1_122 (dc tbX1_springBackAt_1_k 9 rfl) ?_
  refine lv_iconst (v := 1) hx hb (dc tbX1_springBackAt_1_k 10 rfl) ic_1 ?_
  refine lv_isub hx hb (dc tbX1_springBackAt_1_k 11 rfl) ?_
  obtain ⟨h5, hf⟩ := chk_s hf
  refine g_iald hx hb hK hI hk0.2.2.2.2.1 (okb_in h5) (dc tbX1_springBackAt_1_k 12 rfl) ?_
  refine lv_i2d hx hb (dc tbX1_springBackAt_1_k 13 rfl) ?_
  cases hf
  exact g_dret hx hb hr hlk hI (dc tbX1_springBackAt_1_k 14 rfl)
def mX1_springBackAt_b31 (k0 : Nat) (M : Mem) (ih31 : UInt64 → Int32 → Option UInt64) (x1 : UInt64) (x3 : Int32) : Option UInt64 := ite2 ((rd M k0 10) ≤ x3) (mX1_springBackAt_b73 k0 M) (ite2 ((8 : Int32) ≤ x3) (mX1_springBackAt_b73 k0 M) (chk (okb x3 8) (ite2 (0 < (Op.cmpValue (FP.dcmp x1 (FP.i2d (rd M (k0 + 3) (x3).toNatClampNeg))) CmpOp.g)) (bnd (x3 + (1 : Int32)) (fun x3_67 => ih31 x1 x3_67)) (cap (mX1_springBackBetween k0 (x3 - (1 : Int32)) x3 x1 M) (fun r11 => some r11)))))
set_option maxHeartbeats 4000000 in
set_option maxRecDepth 100000 in
theorem tX1_springBackAt_b31 {p : Program} {l : Launch} {e : Env} {s : State} {m : MethodId} {args : Array Value} {below : List Frame} {meth : Method} {c : Code} {G : GT} {kd : Nat → Nat × Nat} {ad : Nat → Nat} (C : Cx p s m args meth c cX1_springBackAt 4 (some .double) RX1 G kd ad) {k0 : Nat} (hk0 : kPart kd k0) {M : Mem} {vo : UInt64} {ih31 : UInt64 → Int32 → Option UInt64} (hih31 : ∀ (x1 : UInt64) (x3 : Int32), ih31 x1 x3 = some vo → At p l e (rmO 1 0 0) s m args below meth c 0 0 (MQ below (Qg G kd ad s.heap.size M (some (.double vo))) args s 0 0 (AS kd ad s.heap.size)) G kd ad 4 31 [(0, .ref (ad k0)), (1, .double x1), (3, .int x3)] [] M) : ∀ (x1 : UInt64) (x3 : Int32), mX1_springBackAt_b31 k0 M ih31 x1 x3 = some vo → At p l e (rmO 1 0 0) s m args below meth c 0 0 (MQ below (Qg G kd ad s.heap.size M (some (.double vo))) args s 0 0 (AS kd ad s.heap.size)) G kd ad 4 31 [(0, .ref (ad k0)), (1, .double x1), (3, .int x3)] [] M := by
  intro x1 x3 hf H locs ls hI hl
  obtain ⟨hx, hb, hml, hr, hown, hts, hlk, hK, hap, hsx⟩ := id C
  unfold mX1_springBackAt_b31 at hf
  refine lv_iload_n hx hb (dc tbX1_springBackAt_0_k 21 rfl) rfl (lv_at hl 2 rfl) ?_
  refine lv_aload_n hx hb (dc tbX1_springBackAt_0_k 22 rfl) rfl (lv_at hl 0 rfl) ?_
  refine gg1_10 hx hb hts hown hK hI hk0.1 q_t1_122 (dc tbX1_springBackAt_0_k 23 rfl) ?_
  refine lv_icmp_ge (tgt := 73) hx hb (dc tbX1_springBackAt_0_k 24 rfl) rfl (fun c4 => ?_) (fun c4 => ?_)
  · have hf := ite_t c4 hf
    exact tX1_springBackAt_b73 C hk0 hf _ _ _ hI (lv_sub hl [0] rfl)
  · have hf := ite_f c4 hf
    refine lv_iload_n hx hb (dc tbX1_springBackAt_0_k 25 rfl) rfl (lv_at hl 2 rfl) ?_
    refine lv_bipush (v := 8) hx hb (dc tbX1_springBackAt_0_k 26 rfl) bp_8 ?_
    refine lv_icmp_ge (tgt := 73) hx hb (dc tbX1_springBackAt_0_k 27 rfl) rfl (fun c6 => ?_) (fun c6 => ?_)
    · have hf := ite_t c6 hf
      exact tX1_springBackAt_b73 C hk0 hf _ _ _ hI (lv_sub hl [0] rfl)
    · have hf := ite_f c6 hf
      refine lv_dload_n hx hb (dc tbX1_springBackAt_0_k 28 rfl) rfl (lv_at hl 1 rfl) ?_
      refine lv_aload_n hx hb (dc tbX1_springBackAt_0_k 29 rfl) rfl (lv_at hl 0 rfl) ?_
      refine gg1_11 hx hb hts hown hK hI hk0.1 q_t1_124 (dc tbX1_springBackAt_0_k 30 rfl) ?_
      refine lv_iload_n hx hb (dc tbX1_springBackAt_0_k 31 rfl) rfl (lv_at hl 2 rfl) ?_
      obtain ⟨h7, hf⟩ := chk_s hf
      refine g_iald hx hb hK hI hk0.2.2.2.1 (okb_in h7) (dc tbX1_springBackAt_0_k 32 rfl) ?_
      refine lv_i2d hx hb (dc tbX1_springBackAt_0_k 33 rfl) ?_
      refine lv_dcmp hx hb (dc tbX1_springBackAt_0_k 34 rfl) ?_
      refine lv_if_gt (tgt := 67) hx hb (dc tbX1_springBackAt_0_k 35 rfl) rfl (fun c8 => ?_) (fun c8 => ?_)
      · have hf := ite_t c8 hf
        obtain ⟨x3_67, e9, hf⟩ := bnd_s hf
        refine lv_iinc (v := x3_67) (lv' := [(3, .int x3_67), (0, .ref (ad k0)), (1, .double x1)]) hx hb (dc tbX1_springBackAt_1_k 4 rfl) hl (k := 2) rfl (ii_e e9 ic_1) (by decide) rfl (fun ls hl => ?_)
        refine lv_goto (tgt := 31) hx hb (dc tbX1_springBackAt_1_k 5 rfl) rfl ?_
        exact hih31 x1 x3_67 hf _ _ _ hI (lv_sub hl [1, 2, 0] rfl)
      · have hf := ite_f c8 hf
        refine lv_aload_n hx hb (dc tbX1_springBackAt_0_k 36 rfl) rfl (lv_at hl 0 rfl) ?_
        refine lv_iload_n hx hb (dc tbX1_springBackAt_0_k 37 rfl) rfl (lv_at hl 2 rfl) ?_
        refine lv_iconst (v := 1) hx hb (dc tbX1_springBackAt_0_k 38 rfl) ic_1 ?_
        refine lv_isub hx hb (dc tbX1_springBackAt_0_k 39 rfl) ?_
        refine lv_iload_n hx hb (dc tbX1_springBackAt_1_k 0 rfl) rfl (lv_at hl 2 rfl) ?_
        refine lv_dload_n hx hb (dc tbX1_springBackAt_1_k 1 rfl) rfl (lv_at hl 1 rfl) ?_
        obtain ⟨r11, q10, hf⟩ := cap_s hf
        refine g_callVd hx hb hml hown hts hK hap hsx hI (tX1_springBackBetween l hk0 q10 H.size) cv_X1_springBackBetween q_t2_174 rfl rfl ⟨Nat.le_of_ble_eq_true rfl, Nat.le_of_ble_eq_true rfl⟩ hk0.1 (by simp) rfl rfl rfl hl.1 rfl (Nat.le_of_ble_eq_true rfl) (dc tbX1_springBackAt_1_k 2 rfl) ⟨Nat.le_of_ble_eq_true rfl, Nat.le_of_ble_eq_true rfl⟩ (fun H locs hI => ?_)
        cases hf
        exact g_dret hx hb hr hlk hI (dc tbX1_springBackAt_1_k 3 rfl)
def mX1_springBackAt_l31 (k0 : Nat) (M : Mem) : Nat → UInt64 → Int32 → Option UInt64
  | 0 => fun _ _ => none
  | n + 1 => mX1_springBackAt_b31 k0 M (mX1_springBackAt_l31 k0 M n)
theorem tX1_springBackAt_l31 {p : Program} {l : Launch} {e : Env} {s : State} {m : MethodId} {args : Array Value} {below : List Frame} {meth : Method} {c : Code} {G : GT} {kd : Nat → Nat × Nat} {ad : Nat → Nat} (C : Cx p s m args meth c cX1_springBackAt 4 (some .double) RX1 G kd ad) {k0 : Nat} (hk0 : kPart kd k0) {M : Mem} {vo : UInt64}   : ∀ (fuel : Nat) (x1 : UInt64) (x3 : Int32), mX1_springBackAt_l31 k0 M fuel x1 x3 = some vo → At p l e (rmO 1 0 0) s m args below meth c 0 0 (MQ below (Qg G kd ad s.heap.size M (some (.double vo))) args s 0 0 (AS kd ad s.heap.size)) G kd ad 4 31 [(0, .ref (ad k0)), (1, .double x1), (3, .int x3)] [] M := by
  intro fuel
  induction fuel with
  | zero => intro x1 x3 hf; cases hf
  | succ n IH => exact tX1_springBackAt_b31 C hk0 IH
def mX1_springBackAt (k0 : Nat) (x1 : UInt64) (M : Mem) : Option UInt64 := ite2 ((rd M k0 10) = 0) (some FP.dconst0) (chk (okb (0 : Int32) 8) (ite2 (0 < (Op.cmpValue (FP.dcmp x1 (FP.i2d (rd M (k0 + 3) ((0 : Int32)).toNatClampNeg))) CmpOp.g)) (mX1_springBackAt_l31 k0 M 5000 x1 (1 : Int32)) (chk (okb (0 : Int32) 8) (some (FP.i2d (rd M (k0 + 4) ((0 : Int32)).toNatClampNeg))))))
set_option maxHeartbeats 4000000 in
set_option maxRecDepth 100000 in
theorem tX1_springBackAt (l : Launch) {G : GT} {kd : Nat → Nat × Nat} {ad : Nat → Nat} {k0 : Nat} (hk0 : kPart kd k0) {x1 : UInt64} {M : Mem} {vo : UInt64} (hf : mX1_springBackAt k0 x1 M = some vo) (n : Nat) : Met l yX1_springBackAt (Cond.code yX1_springBackAt cX1_springBackAt 4 (some .double) :: WA) (rmO 1 0 0) (Pg G kd ad n [.ref (ad k0), .double x1] M) (Qg G kd ad n M (some (.double vo))) 0 0 (AS kd ad n) := by
  refine g_body (own := RX1) (by decide) rfl ?_ (Nat.le_of_ble_eq_true rfl)
  intro p e s m args below meth c C _ H locs ls hI hl
  obtain ⟨hx, hb, hml, hr, hown, hts, hlk, hK, hap, hsx⟩ := id C
  have hl : lv_has ls 4 [(0, .ref (ad k0)), (1, .double x1)] := hl
  unfold mX1_springBackAt at hf
  refine lv_aload_n hx hb (dc tbX1_springBackAt_0_k 0 rfl) rfl (lv_at hl 0 rfl) ?_
  refine gg1_10 hx hb hts hown hK hI hk0.1 q_t1_122 (dc tbX1_springBackAt_0_k 1 rfl) ?_
  refine lv_if_ne (tgt := 9) hx hb (dc tbX1_springBackAt_0_k 2 rfl) rfl (fun c1 => ?_) (fun c1 => ?_)
  · have hf := ite_f c1 hf
    refine lv_dload_n hx hb (dc tbX1_springBackAt_0_k 5 rfl) rfl (lv_at hl 1 rfl) ?_
    refine lv_aload_n hx hb (dc tbX1_springBackAt_0_k 6 rfl) rfl (lv_at hl 0 rfl) ?_
    refine gg1_11 hx hb hts hown hK hI hk0.1 q_t1_124 (dc tbX1_springBackAt_0_k 7 rfl) ?_
    refine lv_iconst (v := 0) hx hb (dc tbX1_springBackAt_0_k 8 rfl) ic_0 ?_
    obtain ⟨h2, hf⟩ := chk_s hf
    refine g_iald hx hb hK hI hk0.2.2.2.1 (okb_in h2) (dc tbX1_springBackAt_0_k 9 rfl) ?_
    refine lv_i2d hx hb (dc tbX1_springBackAt_0_k 10 rfl) ?_
    refine lv_dcmp hx hb (dc tbX1_springBackAt_0_k 11 rfl) ?_
    refine lv_if_gt (tgt := 29) hx hb (dc tbX1_springBackAt_0_k 12 rfl) rfl (fun c3 => ?_) (fun c3 => ?_)
    · have hf := ite_t c3 hf
      refine lv_iconst (v := 1) hx hb (dc tbX1_springBackAt_0_k 19 rfl) ic_1 ?_
      refine lv_istore_n (lv' := [(3, .int (1 : Int32)), (0, .ref (ad k0)), (1, .double x1)]) hx hb (dc tbX1_springBackAt_0_k 20 rfl) rfl hl (by decide) rfl (fun ls hl => ?_)
      exact tX1_springBackAt_l31 C hk0 5000 x1 (1 : Int32) hf _ _ _ hI (lv_sub hl [1, 2, 0] rfl)
    · have hf := ite_f c3 hf
      refine lv_aload_n hx hb (dc tbX1_springBackAt_0_k 13 rfl) rfl (lv_at hl 0 rfl) ?_
      refine gg1_12 hx hb hts hown hK hI hk0.1 q_t1_125 (dc tbX1_springBackAt_0_k 14 rfl) ?_
      refine lv_iconst (v := 0) hx hb (dc tbX1_springBackAt_0_k 15 rfl) ic_0 ?_
      obtain ⟨h13, hf⟩ := chk_s hf
      refine g_iald hx hb hK hI hk0.2.2.2.2.1 (okb_in h13) (dc tbX1_springBackAt_0_k 16 rfl) ?_
      refine lv_i2d hx hb (dc tbX1_springBackAt_0_k 17 rfl) ?_
      cases hf
      exact g_dret hx hb hr hlk hI (dc tbX1_springBackAt_0_k 18 rfl)
  · have hf := ite_t c1 hf
    refine lv_dconst0 hx hb (dc tbX1_springBackAt_0_k 3 rfl) ?_
    cases hf
    exact g_dret hx hb hr hlk hI (dc tbX1_springBackAt_0_k 4 rfl)
theorem cv_X1_springBackAt : cvF RX1 yX1_springBackAt cX1_springBackAt 4 (some .double) 1 := ⟨q_t2_171, q_t2_172, q_t1_3, q_t2_173, by decide +kernel⟩
def mX1_addStep (k0 : Nat) (x1 : Int32) (x2 : Int32) (x3 : Int32) (M : Mem) : Option (Mem × Unit) := ite2 ((8 : Int32) ≤ (rd M k0 14)) (some (M, ())) (chk (okb (rd M k0 14) 8) (bnd (wr M (k0 + 5) ((rd M k0 14)).toNatClampNeg x1) (fun M4 => chk (okb (rd M4 k0 14) 8) (bnd (wr M4 (k0 + 6) ((rd M4 k0 14)).toNatClampNeg x2) (fun M7 => chk (okb (rd M7 k0 14) 8) (bnd (wr M7 (k0 + 7) ((rd M7 k0 14)).toNatClampNeg x3) (fun M10 => bnd (wr M10 k0 14 ((rd M10 k0 14) + (1 : Int32))) (fun M11 => bnd (wr M11 k0 13 ((rd M11 k0 13) ||| ((1 : Int32) <<< ((x1 >>> ((1 : Int32) &&& 31)) &&& 31)))) (fun M13 => some (M13, ()))))))))))
set_option maxHeartbeats 4000000 in
set_option maxRecDepth 100000 in
theorem tX1_addStep (l : Launch) {G : GT} {kd : Nat → Nat × Nat} {ad : Nat → Nat} {k0 : Nat} (hk0 : kPart kd k0) {x1 : Int32} {x2 : Int32} {x3 : Int32} {M : Mem} {MO : Mem} {vo : Unit} (hf : mX1_addStep k0 x1 x2 x3 M = some (MO, vo)) (n : Nat) : Met l yX1_addStep (Cond.code yX1_addStep cX1_addStep 4 none :: WA) (rmO 0 0 0) (Pg G kd ad n [.ref (ad k0), .int x1, .int x2, .int x3] M) (Qg G kd ad n MO none) 0 0 (AS kd ad n) := by
  refine g_body (own := RX1) (by decide) rfl ?_ (Nat.le_of_ble_eq_true rfl)
  intro p e s m args below meth c C _ H locs ls hI hl
  obtain ⟨hx, hb, hml, hr, hown, hts, hlk, hK, hap, hsx⟩ := id C
  have hl : lv_has ls 4 [(0, .ref (ad k0)), (1, .int x1), (2, .int x2), (3, .int x3)] := hl
  unfold mX1_addStep at hf
  refine lv_aload_n hx hb (dc tbX1_addStep_k 0 rfl) rfl (lv_at hl 0 rfl) ?_
  refine gg1_14 hx hb hts hown hK hI hk0.1 q_t1_129 (dc tbX1_addStep_k 1 rfl) ?_
  refine lv_bipush (v := 8) hx hb (dc tbX1_addStep_k 2 rfl) bp_8 ?_
  refine lv_icmp_ge (tgt := 63) hx hb (dc tbX1_addStep_k 3 rfl) rfl (fun c1 => ?_) (fun c1 => ?_)
  · have hf := ite_t c1 hf
    cases hf
    exact g_vret hx hb hr hlk hI (dc tbX1_addStep_k 38 rfl)
  · have hf := ite_f c1 hf
    refine lv_aload_n hx hb (dc tbX1_addStep_k 4 rfl) rfl (lv_at hl 0 rfl) ?_
    refine gg1_15 hx hb hts hown hK hI hk0.1 q_t1_131 (dc tbX1_addStep_k 5 rfl) ?_
    refine lv_aload_n hx hb (dc tbX1_addStep_k 6 rfl) rfl (lv_at hl 0 rfl) ?_
    refine gg1_14 hx hb hts hown hK hI hk0.1 q_t1_129 (dc tbX1_addStep_k 7 rfl) ?_
    refine lv_iload_n hx hb (dc tbX1_addStep_k 8 rfl) rfl (lv_at hl 1 rfl) ?_
    obtain ⟨h2, hf⟩ := chk_s hf
    obtain ⟨M4, e3, hf⟩ := bnd_s hf
    refine g_iast hx hb hK hap hI hk0.2.2.2.2.2.1 (okb_in h2) (dc tbX1_addStep_k 9 rfl) e3 (fun H locs hI => ?_)
    refine lv_aload_n hx hb (dc tbX1_addStep_k 10 rfl) rfl (lv_at hl 0 rfl) ?_
    refine gg1_16 hx hb hts hown hK hI hk0.1 q_t1_133 (dc tbX1_addStep_k 11 rfl) ?_
    refine lv_aload_n hx hb (dc tbX1_addStep_k 12 rfl) rfl (lv_at hl 0 rfl) ?_
    refine gg1_14 hx hb hts hown hK hI hk0.1 q_t1_129 (dc tbX1_addStep_k 13 rfl) ?_
    refine lv_iload_n hx hb (dc tbX1_addStep_k 14 rfl) rfl (lv_at hl 2 rfl) ?_
    obtain ⟨h5, hf⟩ := chk_s hf
    obtain ⟨M7, e6, hf⟩ := bnd_s hf
    refine g_iast hx hb hK hap hI hk0.2.2.2.2.2.2.1 (okb_in h5) (dc tbX1_addStep_k 15 rfl) e6 (fun H locs hI => ?_)
    refine lv_aload_n hx hb (dc tbX1_addStep_k 16 rfl) rfl (lv_at hl 0 rfl) ?_
    refine gg1_17 hx hb hts hown hK hI hk0.1 q_t1_135 (dc tbX1_addStep_k 17 rfl) ?_
    refine lv_aload_n hx hb (dc tbX1_addStep_k 18 rfl) rfl (lv_at hl 0 rfl) ?_
    refine gg1_14 hx hb hts hown hK hI hk0.1 q_t1_129 (dc tbX1_addStep_k 19 rfl) ?_
    refine lv_iload_n hx hb (dc tbX1_addStep_k 20 rfl) rfl (lv_at hl 3 rfl) ?_
    obtain ⟨h8, hf⟩ := chk_s hf
    obtain ⟨M10, e9, hf⟩ := bnd_s hf
    refine g_iast hx hb hK hap hI hk0.2.2.2.2.2.2.2 (okb_in h8) (dc tbX1_addStep_k 21 rfl) e9 (fun H locs hI => ?_)
    refine lv_aload_n hx hb (dc tbX1_addStep_k 22 rfl) rfl (lv_at hl 0 rfl) ?_
    refine lv_dup hx hb (dc tbX1_addStep_k 23 rfl) rfl ?_
    refine gg1_14 hx hb hts hown hK hI hk0.1 q_t1_129 (dc tbX1_addStep_k 24 rfl) ?_
    refine lv_iconst (v := 1) hx hb (dc tbX1_addStep_k 25 rfl) ic_1 ?_
    refine lv_iadd hx hb (dc tbX1_addStep_k 26 rfl) ?_
    obtain ⟨M11, e12, hf⟩ := bnd_s hf
    refine gp1_14 hx hb hts hown hK hap hI hk0.1 q_t1_129 (dc tbX1_addStep_k 27 rfl) e12 (fun H locs hI => ?_)
    refine lv_aload_n hx hb (dc tbX1_addStep_k 28 rfl) rfl (lv_at hl 0 rfl) ?_
    refine lv_dup hx hb (dc tbX1_addStep_k 29 rfl) rfl ?_
    refine gg1_13 hx hb hts hown hK hI hk0.1 q_t1_126 (dc tbX1_addStep_k 30 rfl) ?_
    refine lv_iconst (v := 1) hx hb (dc tbX1_addStep_k 31 rfl) ic_1 ?_
    refine lv_iload_n hx hb (dc tbX1_addStep_k 32 rfl) rfl (lv_at hl 1 rfl) ?_
    refine lv_iconst (v := 1) hx hb (dc tbX1_addStep_k 33 rfl) ic_1 ?_
    refine lv_ishr hx hb (dc tbX1_addStep_k 34 rfl) ?_
    refine lv_ishl hx hb (dc tbX1_addStep_k 35 rfl) ?_
    refine lv_ior hx hb (dc tbX1_addStep_k 36 rfl) ?_
    obtain ⟨M13, e14, hf⟩ := bnd_s hf
    refine gp1_13 hx hb hts hown hK hap hI hk0.1 q_t1_126 (dc tbX1_addStep_k 37 rfl) e14 (fun H locs hI => ?_)
    cases hf
    exact g_vret hx hb hr hlk hI (dc tbX1_addStep_k 38 rfl)
theorem cv_X1_addStep : cvF RX1 yX1_addStep cX1_addStep 4 none 3 := ⟨q_t6_223, q_t6_224, q_t1_3, q_t6_225, by decide +kernel⟩
def mX1_lastCode (k0 : Nat) (M : Mem) : Option Int32 := ite2 ((rd M k0 14) ≤ 0) (some (-1 : Int32)) (chk (okb ((rd M k0 14) - (1 : Int32)) 8) (some (rd M (k0 + 5) (((rd M k0 14) - (1 : Int32))).toNatClampNeg)))
set_option maxHeartbeats 4000000 in
set_option maxRecDepth 100000 in
theorem tX1_lastCode (l : Launch) {G : GT} {kd : Nat → Nat × Nat} {ad : Nat → Nat} {k0 : Nat} (hk0 : kPart kd k0) {M : Mem} {vo : Int32} (hf : mX1_lastCode k0 M = some vo) (n : Nat) : Met l yX1_lastCode (Cond.code yX1_lastCode cX1_lastCode 1 (some .int) :: WA) (rmO 0 0 0) (Pg G kd ad n [.ref (ad k0)] M) (Qg G kd ad n M (some (.int vo))) 0 0 (AS kd ad n) := by
  refine g_body (own := RX1) (by decide) rfl ?_ (Nat.le_of_ble_eq_true rfl)
  intro p e s m args below meth c C _ H locs ls hI hl
  obtain ⟨hx, hb, hml, hr, hown, hts, hlk, hK, hap, hsx⟩ := id C
  have hl : lv_has ls 1 [(0, .ref (ad k0))] := hl
  unfold mX1_lastCode at hf
  refine lv_aload_n hx hb (dc tbX1_lastCode_k 0 rfl) rfl (lv_at hl 0 rfl) ?_
  refine gg1_14 hx hb hts hown hK hI hk0.1 q_t1_129 (dc tbX1_lastCode_k 1 rfl) ?_
  refine lv_if_le (tgt := 21) hx hb (dc tbX1_lastCode_k 2 rfl) rfl (fun c1 => ?_) (fun c1 => ?_)
  · have hf := ite_t c1 hf
    refine lv_iconst (v := -1) hx hb (dc tbX1_lastCode_k 11 rfl) ic_m1 ?_
    cases hf
    exact g_iret hx hb hr hlk hI (dc tbX1_lastCode_k 12 rfl)
  · have hf := ite_f c1 hf
    refine lv_aload_n hx hb (dc tbX1_lastCode_k 3 rfl) rfl (lv_at hl 0 rfl) ?_
    refine gg1_15 hx hb hts hown hK hI hk0.1 q_t1_131 (dc tbX1_lastCode_k 4 rfl) ?_
    refine lv_aload_n hx hb (dc tbX1_lastCode_k 5 rfl) rfl (lv_at hl 0 rfl) ?_
    refine gg1_14 hx hb hts hown hK hI hk0.1 q_t1_129 (dc tbX1_lastCode_k 6 rfl) ?_
    refine lv_iconst (v := 1) hx hb (dc tbX1_lastCode_k 7 rfl) ic_1 ?_
    refine lv_isub hx hb (dc tbX1_lastCode_k 8 rfl) ?_
    obtain ⟨h2, hf⟩ := chk_s hf
    refine g_iald hx hb hK hI hk0.2.2.2.2.2.1 (okb_in h2) (dc tbX1_lastCode_k 9 rfl) ?_
    refine lv_goto (tgt := 22) hx hb (dc tbX1_lastCode_k 10 rfl) rfl ?_
    cases hf
    exact g_iret hx hb hr hlk hI (dc tbX1_lastCode_k 12 rfl)
theorem cv_X1_lastCode : cvF RX1 yX1_lastCode cX1_lastCode 1 (some .int) 0 := ⟨q_t3_72, q_t3_73, q_t1_3, q_t3_74, by decide +kernel⟩
def mX1_lastGauge (k0 : Nat) (M : Mem) : Option Int32 := ite2 ((rd M k0 14) ≤ 0) (some (-1 : Int32)) (chk (okb ((rd M k0 14) - (1 : Int32)) 8) (some (rd M (k0 + 6) (((rd M k0 14) - (1 : Int32))).toNatClampNeg)))
set_option maxHeartbeats 4000000 in
set_option maxRecDepth 100000 in
theorem tX1_lastGauge (l : Launch) {G : GT} {kd : Nat → Nat × Nat} {ad : Nat → Nat} {k0 : Nat} (hk0 : kPart kd k0) {M : Mem} {vo : Int32} (hf : mX1_lastGauge k0 M = some vo) (n : Nat) : Met l yX1_lastGauge (Cond.code yX1_lastGauge cX1_lastGauge 1 (some .int) :: WA) (rmO 0 0 0) (Pg G kd ad n [.ref (ad k0)] M) (Qg G kd ad n M (some (.int vo))) 0 0 (AS kd ad n) := by
  refine g_body (own := RX1) (by decide) rfl ?_ (Nat.le_of_ble_eq_true rfl)
  intro p e s m args below meth c C _ H locs ls hI hl
  obtain ⟨hx, hb, hml, hr, hown, hts, hlk, hK, hap, hsx⟩ := id C
  have hl : lv_has ls 1 [(0, .ref (ad k0))] := hl
  unfold mX1_lastGauge at hf
  refine lv_aload_n hx hb (dc tbX1_lastGauge_k 0 rfl) rfl (lv_at hl 0 rfl) ?_
  refine gg1_14 hx hb hts hown hK hI hk0.1 q_t1_129 (dc tbX1_lastGauge_k 1 rfl) ?_
  refine lv_if_le (tgt := 21) hx hb (dc tbX1_lastGauge_k 2 rfl) rfl (fun c1 => ?_) (fun c1 => ?_)
  · have hf := ite_t c1 hf
    refine lv_iconst (v := -1) hx hb (dc tbX1_lastGauge_k 11 rfl) ic_m1 ?_
    cases hf
    exact g_iret hx hb hr hlk hI (dc tbX1_lastGauge_k 12 rfl)
  · have hf := ite_f c1 hf
    refine lv_aload_n hx hb (dc tbX1_lastGauge_k 3 rfl) rfl (lv_at hl 0 rfl) ?_
    refine gg1_16 hx hb hts hown hK hI hk0.1 q_t1_133 (dc tbX1_lastGauge_k 4 rfl) ?_
    refine lv_aload_n hx hb (dc tbX1_lastGauge_k 5 rfl) rfl (lv_at hl 0 rfl) ?_
    refine gg1_14 hx hb hts hown hK hI hk0.1 q_t1_129 (dc tbX1_lastGauge_k 6 rfl) ?_
    refine lv_iconst (v := 1) hx hb (dc tbX1_lastGauge_k 7 rfl) ic_1 ?_
    refine lv_isub hx hb (dc tbX1_lastGauge_k 8 rfl) ?_
    obtain ⟨h2, hf⟩ := chk_s hf
    refine g_iald hx hb hK hI hk0.2.2.2.2.2.2.1 (okb_in h2) (dc tbX1_lastGauge_k 9 rfl) ?_
    refine lv_goto (tgt := 22) hx hb (dc tbX1_lastGauge_k 10 rfl) rfl ?_
    cases hf
    exact g_iret hx hb hr hlk hI (dc tbX1_lastGauge_k 12 rfl)
theorem cv_X1_lastGauge : cvF RX1 yX1_lastGauge cX1_lastGauge 1 (some .int) 0 := ⟨q_t3_76, q_t3_77, q_t1_3, q_t3_78, by decide +kernel⟩
def mX1_sumOfCosts_b4 (k0 : Nat) (M : Mem) (ih4 : Int32 → Int32 → Option Int32) (x1 : Int32) (x2 : Int32) : Option Int32 := ite2 ((rd M k0 14) ≤ x2) (some x1) (ite2 ((8 : Int32) ≤ x2) (some x1) (chk (okb x2 8) (bnd ((x1 + (rd M (k0 + 7) (x2).toNatClampNeg))) (fun x1_26 => bnd (x2 + (1 : Int32)) (fun x2_27 => ih4 x1_26 x2_27)))))
set_option maxHeartbeats 4000000 in
set_option maxRecDepth 100000 in
theorem tX1_sumOfCosts_b4 {p : Program} {l : Launch} {e : Env} {s : State} {m : MethodId} {args : Array Value} {below : List Frame} {meth : Method} {c : Code} {G : GT} {kd : Nat → Nat × Nat} {ad : Nat → Nat} (C : Cx p s m args meth c cX1_sumOfCosts 3 (some .int) RX1 G kd ad) {k0 : Nat} (hk0 : kPart kd k0) {M : Mem} {vo : Int32} {ih4 : Int32 → Int32 → Option Int32} (hih4 : ∀ (x1 : Int32) (x2 : Int32), ih4 x1 x2 = some vo → At p l e (rmO 0 0 0) s m args below meth c 0 0 (MQ below (Qg G kd ad s.heap.size M (some (.int vo))) args s 0 0 (AS kd ad s.heap.size)) G kd ad 3 4 [(0, .ref (ad k0)), (1, .int x1), (2, .int x2)] [] M) : ∀ (x1 : Int32) (x2 : Int32), mX1_sumOfCosts_b4 k0 M ih4 x1 x2 = some vo → At p l e (rmO 0 0 0) s m args below meth c 0 0 (MQ below (Qg G kd ad s.heap.size M (some (.int vo))) args s 0 0 (AS kd ad s.heap.size)) G kd ad 3 4 [(0, .ref (ad k0)), (1, .int x1), (2, .int x2)] [] M := by
  intro x1 x2 hf H locs ls hI hl
  obtain ⟨hx, hb, hml, hr, hown, hts, hlk, hK, hap, hsx⟩ := id C
  unfold mX1_sumOfCosts_b4 at hf
  refine lv_iload_n hx hb (dc tbX1_sumOfCosts_k 4 rfl) rfl (lv_at hl 2 rfl) ?_
  refine lv_aload_n hx hb (dc tbX1_sumOfCosts_k 5 rfl) rfl (lv_at hl 0 rfl) ?_
  refine gg1_14 hx hb hts hown hK hI hk0.1 q_t1_129 (dc tbX1_sumOfCosts_k 6 rfl) ?_
  refine lv_icmp_ge (tgt := 33) hx hb (dc tbX1_sumOfCosts_k 7 rfl) rfl (fun c1 => ?_) (fun c1 => ?_)
  · have hf := ite_t c1 hf
    refine lv_iload_n hx hb (dc tbX1_sumOfCosts_k 20 rfl) rfl (lv_at hl 1 rfl) ?_
    cases hf
    exact g_iret hx hb hr hlk hI (dc tbX1_sumOfCosts_k 21 rfl)
  · have hf := ite_f c1 hf
    refine lv_iload_n hx hb (dc tbX1_sumOfCosts_k 8 rfl) rfl (lv_at hl 2 rfl) ?_
    refine lv_bipush (v := 8) hx hb (dc tbX1_sumOfCosts_k 9 rfl) bp_8 ?_
    refine lv_icmp_ge (tgt := 33) hx hb (dc tbX1_sumOfCosts_k 10 rfl) rfl (fun c2 => ?_) (fun c2 => ?_)
    · have hf := ite_t c2 hf
      refine lv_iload_n hx hb (dc tbX1_sumOfCosts_k 20 rfl) rfl (lv_at hl 1 rfl) ?_
      cases hf
      exact g_iret hx hb hr hlk hI (dc tbX1_sumOfCosts_k 21 rfl)
    · have hf := ite_f c2 hf
      refine lv_iload_n hx hb (dc tbX1_sumOfCosts_k 11 rfl) rfl (lv_at hl 1 rfl) ?_
      refine lv_aload_n hx hb (dc tbX1_sumOfCosts_k 12 rfl) rfl (lv_at hl 0 rfl) ?_
      refine gg1_17 hx hb hts hown hK hI hk0.1 q_t1_135 (dc tbX1_sumOfCosts_k 13 rfl) ?_
      refine lv_iload_n hx hb (dc tbX1_sumOfCosts_k 14 rfl) rfl (lv_at hl 2 rfl) ?_
      obtain ⟨h3, hf⟩ := chk_s hf
      refine g_iald hx hb hK hI hk0.2.2.2.2.2.2.2 (okb_in h3) (dc tbX1_sumOfCosts_k 15 rfl) ?_
      refine lv_iadd hx hb (dc tbX1_sumOfCosts_k 16 rfl) ?_
      obtain ⟨x1_26, e4, hf⟩ := bnd_s hf
      refine lv_ei e4 ?_
      refine lv_istore_n (lv' := [(1, .int x1_26), (0, .ref (ad k0)), (2, .int x2)]) hx hb (dc tbX1_sumOfCosts_k 17 rfl) rfl hl (by decide) rfl (fun ls hl => ?_)
      obtain ⟨x2_27, e5, hf⟩ := bnd_s hf
      refine lv_iinc (v := x2_27) (lv' := [(2, .int x2_27), (1, .int x1_26), (0, .ref (ad k0))]) hx hb (dc tbX1_sumOfCosts_k 18 rfl) hl (k := 2) rfl (ii_e e5 ic_1) (by decide) rfl (fun ls hl => ?_)
      refine lv_goto (tgt := 4) hx hb (dc tbX1_sumOfCosts_k 19 rfl) rfl ?_
      exact hih4 x1_26 x2_27 hf _ _ _ hI (lv_sub hl [2, 1, 0] rfl)
def mX1_sumOfCosts_l4 (k0 : Nat) (M : Mem) : Nat → Int32 → Int32 → Option Int32
  | 0 => fun _ _ => none
  | n + 1 => mX1_sumOfCosts_b4 k0 M (mX1_sumOfCosts_l4 k0 M n)
theorem tX1_sumOfCosts_l4 {p : Program} {l : Launch} {e : Env} {s : State} {m : MethodId} {args : Array Value} {below : List Frame} {meth : Method} {c : Code} {G : GT} {kd : Nat → Nat × Nat} {ad : Nat → Nat} (C : Cx p s m args meth c cX1_sumOfCosts 3 (some .int) RX1 G kd ad) {k0 : Nat} (hk0 : kPart kd k0) {M : Mem} {vo : Int32}   : ∀ (fuel : Nat) (x1 : Int32) (x2 : Int32), mX1_sumOfCosts_l4 k0 M fuel x1 x2 = some vo → At p l e (rmO 0 0 0) s m args below meth c 0 0 (MQ below (Qg G kd ad s.heap.size M (some (.int vo))) args s 0 0 (AS kd ad s.heap.size)) G kd ad 3 4 [(0, .ref (ad k0)), (1, .int x1), (2, .int x2)] [] M := by
  intro fuel
  induction fuel with
  | zero => intro x1 x2 hf; cases hf
  | succ n IH => exact tX1_sumOfCosts_b4 C hk0 IH
def mX1_sumOfCosts (k0 : Nat) (M : Mem) : Option Int32 := mX1_sumOfCosts_l4 k0 M 5000 (0 : Int32) (0 : Int32)
set_option maxHeartbeats 4000000 in
set_option maxRecDepth 100000 in
theorem tX1_sumOfCosts (l : Launch) {G : GT} {kd : Nat → Nat × Nat} {ad : Nat → Nat} {k0 : Nat} (hk0 : kPart kd k0) {M : Mem} {vo : Int32} (hf : mX1_sumOfCosts k0 M = some vo) (n : Nat) : Met l yX1_sumOfCosts (Cond.code yX1_sumOfCosts cX1_sumOfCosts 3 (some .int) :: WA) (rmO 0 0 0) (Pg G kd ad n [.ref (ad k0)] M) (Qg G kd ad n M (some (.int vo))) 0 0 (AS kd ad n) := by
  refine g_body (own := RX1) (by decide) rfl ?_ (Nat.le_of_ble_eq_true rfl)
  intro p e s m args below meth c C _ H locs ls hI hl
  obtain ⟨hx, hb, hml, hr, hown, hts, hlk, hK, hap, hsx⟩ := id C
  have hl : lv_has ls 3 [(0, .ref (ad k0))] := hl
  unfold mX1_sumOfCosts at hf
  refine lv_iconst (v := 0) hx hb (dc tbX1_sumOfCosts_k 0 rfl) ic_0 ?_
  refine lv_istore_n (lv' := [(1, .int (0 : Int32)), (0, .ref (ad k0))]) hx hb (dc tbX1_sumOfCosts_k 1 rfl) rfl hl (by decide) rfl (fun ls hl => ?_)
  refine lv_iconst (v := 0) hx hb (dc tbX1_sumOfCosts_k 2 rfl) ic_0 ?_
  refine lv_istore_n (lv' := [(2, .int (0 : Int32)), (1, .int (0 : Int32)), (0, .ref (ad k0))]) hx hb (dc tbX1_sumOfCosts_k 3 rfl) rfl hl (by decide) rfl (fun ls hl => ?_)
  exact tX1_sumOfCosts_l4 C hk0 5000 (0 : Int32) (0 : Int32) hf _ _ _ hI (lv_sub hl [2, 1, 0] rfl)
theorem cv_X1_sumOfCosts : cvF RX1 yX1_sumOfCosts cX1_sumOfCosts 3 (some .int) 0 := ⟨q_t3_13, q_t3_14, q_t1_3, q_t3_15, by decide +kernel⟩
def mX1_priceBetween_b54 (k0 : Nat) (M : Mem) (x2 : Int32) (x4 : Int32) (x5 : Int32) : Option Int32 := ite2 (x2 = x4) (some x5) (bnd ((x5 + (rd M k0 9))) (fun x5_67 => some x5_67))
set_option maxHeartbeats 4000000 in
set_option maxRecDepth 100000 in
theorem tX1_priceBetween_b54 {p : Program} {l : Launch} {e : Env} {s : State} {m : MethodId} {args : Array Value} {below : List Frame} {meth : Method} {c : Code} {G : GT} {kd : Nat → Nat × Nat} {ad : Nat → Nat} (C : Cx p s m args meth c cX1_priceBetween 6 (some .int) RX1 G kd ad) {k0 : Nat} (hk0 : kPart kd k0) {M : Mem} {vo : Int32}   : ∀ (x2 : Int32) (x4 : Int32) (x5 : Int32), mX1_priceBetween_b54 k0 M x2 x4 x5 = some vo → At p l e (rmO 1 0 0) s m args below meth c 0 0 (MQ below (Qg G kd ad s.heap.size M (some (.int vo))) args s 0 0 (AS kd ad s.heap.size)) G kd ad 6 54 [(0, .ref (ad k0)), (2, .int x2), (4, .int x4), (5, .int x5)] [] M := by
  intro x2 x4 x5 hf H locs ls hI hl
  obtain ⟨hx, hb, hml, hr, hown, hts, hlk, hK, hap, hsx⟩ := id C
  unfold mX1_priceBetween_b54 at hf
  refine lv_iload_n hx hb (dc tbX1_priceBetween_0_k 35 rfl) rfl (lv_at hl 1 rfl) ?_
  refine lv_iload hx hb (dc tbX1_priceBetween_0_k 36 rfl) (lv_at hl 2 rfl) ?_
  refine lv_icmp_eq (tgt := 69) hx hb (dc tbX1_priceBetween_0_k 37 rfl) rfl (fun c10 => ?_) (fun c10 => ?_)
  · have hf := ite_t c10 hf
    refine lv_iload hx hb (dc tbX1_priceBetween_1_k 3 rfl) (lv_at hl 3 rfl) ?_
    cases hf
    exact g_iret hx hb hr hlk hI (dc tbX1_priceBetween_1_k 4 rfl)
  · have hf := ite_f c10 hf
    refine lv_iload hx hb (dc tbX1_priceBetween_0_k 38 rfl) (lv_at hl 3 rfl) ?_
    refine lv_aload_n hx hb (dc tbX1_priceBetween_0_k 39 rfl) rfl (lv_at hl 0 rfl) ?_
    refine gg1_9 hx hb hts hown hK hI hk0.1 q_t1_121 (dc tbX1_priceBetween_1_k 0 rfl) ?_
    refine lv_iadd hx hb (dc tbX1_priceBetween_1_k 1 rfl) ?_
    obtain ⟨x5_67, e11, hf⟩ := bnd_s hf
    refine lv_ei e11 ?_
    refine lv_istore (lv' := [(5, .int x5_67), (0, .ref (ad k0)), (2, .int x2), (4, .int x4)]) hx hb (dc tbX1_priceBetween_1_k 2 rfl) hl (by decide) rfl (fun ls hl => ?_)
    refine lv_iload hx hb (dc tbX1_priceBetween_1_k 3 rfl) (lv_at hl 0 rfl) ?_
    cases hf
    exact g_iret hx hb hr hlk hI (dc tbX1_priceBetween_1_k 4 rfl)
def mX1_priceBetween_b36 (k0 : Nat) (M : Mem) (x1 : Int32) (x2 : Int32) (x3 : Int32) (x4 : Int32) (x5 : Int32) : Option Int32 := ite2 ((x1 &&& (1 : Int32)) = (x3 &&& (1 : Int32))) (mX1_priceBetween_b54 k0 M x2 x4 x5) (bnd ((x5 + (rd M k0 8))) (fun x5_52 => mX1_priceBetween_b54 k0 M x2 x4 x5_52))
set_option maxHeartbeats 4000000 in
set_option maxRecDepth 100000 in
theorem tX1_priceBetween_b36 {p : Program} {l : Launch} {e : Env} {s : State} {m : MethodId} {args : Array Value} {below : List Frame} {meth : Method} {c : Code} {G : GT} {kd : Nat → Nat × Nat} {ad : Nat → Nat} (C : Cx p s m args meth c cX1_priceBetween 6 (some .int) RX1 G kd ad) {k0 : Nat} (hk0 : kPart kd k0) {M : Mem} {vo : Int32}   : ∀ (x1 : Int32) (x2 : Int32) (x3 : Int32) (x4 : Int32) (x5 : Int32), mX1_priceBetween_b36 k0 M x1 x2 x3 x4 x5 = some vo → At p l e (rmO 1 0 0) s m args below meth c 0 0 (MQ below (Qg G kd ad s.heap.size M (some (.int vo))) args s 0 0 (AS kd ad s.heap.size)) G kd ad 6 36 [(0, .ref (ad k0)), (1, .int x1), (2, .int x2), (3, .int x3), (4, .int x4), (5, .int x5)] [] M := by
  intro x1 x2 x3 x4 x5 hf H locs ls hI hl
  obtain ⟨hx, hb, hml, hr, hown, hts, hlk, hK, hap, hsx⟩ := id C
  unfold mX1_priceBetween_b36 at hf
  refine lv_iload_n hx hb (dc tbX1_priceBetween_0_k 23 rfl) rfl (lv_at hl 1 rfl) ?_
  refine lv_iconst (v := 1) hx hb (dc tbX1_priceBetween_0_k 24 rfl) ic_1 ?_
  refine lv_iand hx hb (dc tbX1_priceBetween_0_k 25 rfl) ?_
  refine lv_iload_n hx hb (dc tbX1_priceBetween_0_k 26 rfl) rfl (lv_at hl 3 rfl) ?_
  refine lv_iconst (v := 1) hx hb (dc tbX1_priceBetween_0_k 27 rfl) ic_1 ?_
  refine lv_iand hx hb (dc tbX1_priceBetween_0_k 28 rfl) ?_
  refine lv_icmp_eq (tgt := 54) hx hb (dc tbX1_priceBetween_0_k 29 rfl) rfl (fun c9 => ?_) (fun c9 => ?_)
  · have hf := ite_t c9 hf
    exact tX1_priceBetween_b54 C hk0 x2 x4 x5 hf _ _ _ hI (lv_sub hl [0, 2, 4, 5] rfl)
  · have hf := ite_f c9 hf
    refine lv_iload hx hb (dc tbX1_priceBetween_0_k 30 rfl) (lv_at hl 5 rfl) ?_
    refine lv_aload_n hx hb (dc tbX1_priceBetween_0_k 31 rfl) rfl (lv_at hl 0 rfl) ?_
    refine gg1_8 hx hb hts hown hK hI hk0.1 q_t1_120 (dc tbX1_priceBetween_0_k 32 rfl) ?_
    refine lv_iadd hx hb (dc tbX1_priceBetween_0_k 33 rfl) ?_
    obtain ⟨x5_52, e12, hf⟩ := bnd_s hf
    refine lv_ei e12 ?_
    refine lv_istore (lv' := [(5, .int x5_52), (0, .ref (ad k0)), (1, .int x1), (2, .int x2), (3, .int x3), (4, .int x4)]) hx hb (dc tbX1_priceBetween_0_k 34 rfl) hl (by decide) rfl (fun ls hl => ?_)
    exact tX1_priceBetween_b54 C hk0 x2 x4 x5_52 hf _ _ _ hI (lv_sub hl [1, 3, 5, 0] rfl)
def mX1_priceBetween (k0 : Nat) (x1 : Int32) (x2 : Int32) (x3 : Int32) (x4 : Int32) (M : Mem) : Option Int32 := ite2 (x1 = (-1 : Int32)) (some (0 : Int32)) (cap (mX1_goesUp k0 (x1 >>> ((1 : Int32) &&& 31)) M) (fun r3 => cap (mX1_goesUp k0 (x3 >>> ((1 : Int32) &&& 31)) M) (fun r6 => ite2 (r3 = r6) (mX1_priceBetween_b36 k0 M x1 x2 x3 x4 (0 : Int32)) (bnd (((0 : Int32) + (rd M k0 7))) (fun x5_34 => mX1_priceBetween_b36 k0 M x1 x2 x3 x4 x5_34)))))
set_option maxHeartbeats 4000000 in
set_option maxRecDepth 100000 in
theorem tX1_priceBetween (l : Launch) {G : GT} {kd : Nat → Nat × Nat} {ad : Nat → Nat} {k0 : Nat} (hk0 : kPart kd k0) {x1 : Int32} {x2 : Int32} {x3 : Int32} {x4 : Int32} {M : Mem} {vo : Int32} (hf : mX1_priceBetween k0 x1 x2 x3 x4 M = some vo) (n : Nat) : Met l yX1_priceBetween (Cond.code yX1_priceBetween cX1_priceBetween 6 (some .int) :: WA) (rmO 1 0 0) (Pg G kd ad n [.ref (ad k0), .int x1, .int x2, .int x3, .int x4] M) (Qg G kd ad n M (some (.int vo))) 0 0 (AS kd ad n) := by
  refine g_body (own := RX1) (by decide) rfl ?_ (Nat.le_of_ble_eq_true rfl)
  intro p e s m args below meth c C _ H locs ls hI hl
  obtain ⟨hx, hb, hml, hr, hown, hts, hlk, hK, hap, hsx⟩ := id C
  have hl : lv_has ls 6 [(0, .ref (ad k0)), (1, .int x1), (2, .int x2), (3, .int x3), (4, .int x4)] := hl
  unfold mX1_priceBetween at hf
  refine lv_iload_n hx hb (dc tbX1_priceBetween_0_k 0 rfl) rfl (lv_at hl 1 rfl) ?_
  refine lv_iconst (v := -1) hx hb (dc tbX1_priceBetween_0_k 1 rfl) ic_m1 ?_
  refine lv_icmp_ne (tgt := 7) hx hb (dc tbX1_priceBetween_0_k 2 rfl) rfl (fun c1 => ?_) (fun c1 => ?_)
  · have hf := ite_f c1 hf
    refine lv_iconst (v := 0) hx hb (dc tbX1_priceBetween_0_k 5 rfl) ic_0 ?_
    refine lv_istore (lv' := [(5, .int (0 : Int32)), (0, .ref (ad k0)), (1, .int x1), (2, .int x2), (3, .int x3), (4, .int x4)]) hx hb (dc tbX1_priceBetween_0_k 6 rfl) hl (by decide) rfl (fun ls hl => ?_)
    refine lv_aload_n hx hb (dc tbX1_priceBetween_0_k 7 rfl) rfl (lv_at hl 1 rfl) ?_
    refine lv_iload_n hx hb (dc tbX1_priceBetween_0_k 8 rfl) rfl (lv_at hl 2 rfl) ?_
    refine lv_iconst (v := 1) hx hb (dc tbX1_priceBetween_0_k 9 rfl) ic_1 ?_
    refine lv_ishr hx hb (dc tbX1_priceBetween_0_k 10 rfl) ?_
    obtain ⟨r3, q2, hf⟩ := cap_s hf
    refine g_callVi hx hb hml hown hts hK hap hsx hI (tX1_goesUp l hk0 q2 H.size) cv_X1_goesUp q_t2_232 rfl rfl ⟨Nat.le_of_ble_eq_true rfl, Nat.le_of_ble_eq_true rfl⟩ hk0.1 (by simp) rfl rfl rfl hl.1 rfl (Nat.le_of_ble_eq_true rfl) (dc tbX1_priceBetween_0_k 11 rfl) ⟨Nat.le_of_ble_eq_true rfl, Nat.le_of_ble_eq_true rfl⟩ (fun H locs hI => ?_)
    refine lv_aload_n hx hb (dc tbX1_priceBetween_0_k 12 rfl) rfl (lv_at hl 1 rfl) ?_
    refine lv_iload_n hx hb (dc tbX1_priceBetween_0_k 13 rfl) rfl (lv_at hl 4 rfl) ?_
    refine lv_iconst (v := 1) hx hb (dc tbX1_priceBetween_0_k 14 rfl) ic_1 ?_
    refine lv_ishr hx hb (dc tbX1_priceBetween_0_k 15 rfl) ?_
    obtain ⟨r6, q5, hf⟩ := cap_s hf
    refine g_callVi hx hb hml hown hts hK hap hsx hI (tX1_goesUp l hk0 q5 H.size) cv_X1_goesUp q_t2_232 rfl rfl ⟨Nat.le_of_ble_eq_true rfl, Nat.le_of_ble_eq_true rfl⟩ hk0.1 (by simp) rfl rfl rfl hl.1 rfl (Nat.le_of_ble_eq_true rfl) (dc tbX1_priceBetween_0_k 16 rfl) ⟨Nat.le_of_ble_eq_true rfl, Nat.le_of_ble_eq_true rfl⟩ (fun H locs hI => ?_)
    refine lv_icmp_eq (tgt := 36) hx hb (dc tbX1_priceBetween_0_k 17 rfl) rfl (fun c8 => ?_) (fun c8 => ?_)
    · have hf := ite_t c8 hf
      exact tX1_priceBetween_b36 C hk0 x1 x2 x3 x4 (0 : Int32) hf _ _ _ hI (lv_sub hl [1, 2, 3, 4, 5, 0] rfl)
    · have hf := ite_f c8 hf
      refine lv_iload hx hb (dc tbX1_priceBetween_0_k 18 rfl) (lv_at hl 0 rfl) ?_
      refine lv_aload_n hx hb (dc tbX1_priceBetween_0_k 19 rfl) rfl (lv_at hl 1 rfl) ?_
      refine gg1_7 hx hb hts hown hK hI hk0.1 q_t1_118 (dc tbX1_priceBetween_0_k 20 rfl) ?_
      refine lv_iadd hx hb (dc tbX1_priceBetween_0_k 21 rfl) ?_
      obtain ⟨x5_34, e13, hf⟩ := bnd_s hf
      refine lv_ei e13 ?_
      refine lv_istore (lv' := [(5, .int x5_34), (0, .ref (ad k0)), (1, .int x1), (2, .int x2), (3, .int x3), (4, .int x4)]) hx hb (dc tbX1_priceBetween_0_k 22 rfl) hl (by decide) rfl (fun ls hl => ?_)
      exact tX1_priceBetween_b36 C hk0 x1 x2 x3 x4 x5_34 hf _ _ _ hI (lv_sub hl [1, 2, 3, 4, 5, 0] rfl)
  · have hf := ite_t c1 hf
    refine lv_iconst (v := 0) hx hb (dc tbX1_priceBetween_0_k 3 rfl) ic_0 ?_
    cases hf
    exact g_iret hx hb hr hlk hI (dc tbX1_priceBetween_0_k 4 rfl)
theorem cv_X1_priceBetween : cvF RX1 yX1_priceBetween cX1_priceBetween 6 (some .int) 4 := ⟨q_t3_126, q_t3_127, q_t1_3, q_t3_128, by decide +kernel⟩
def mX1_bendsLike_b65 (k0 : Nat) (k1 : Nat) (M : Mem) (ih65 : Int32 → Option Int32) (x2 : Int32) : Option Int32 := ite2 ((10 : Int32) ≤ x2) (some (1 : Int32)) (chk (okb x2 10) (chk (okb x2 10) (ite2 ((rd M (k0 + 2) (x2).toNatClampNeg) = (rd M (k1 + 2) (x2).toNatClampNeg)) (bnd (x2 + (1 : Int32)) (fun x2_88 => ih65 x2_88)) (some (0 : Int32)))))
set_option maxHeartbeats 4000000 in
set_option maxRecDepth 100000 in
theorem tX1_bendsLike_b65 {p : Program} {l : Launch} {e : Env} {s : State} {m : MethodId} {args : Array Value} {below : List Frame} {meth : Method} {c : Code} {G : GT} {kd : Nat → Nat × Nat} {ad : Nat → Nat} (C : Cx p s m args meth c cX1_bendsLike 3 (some .boolean) RX1 G kd ad) {k0 : Nat} {k1 : Nat} (hk0 : kPart kd k0) (hk1 : kPart kd k1) {M : Mem} {vo : Int32} {ih65 : Int32 → Option Int32} (hih65 : ∀ (x2 : Int32), ih65 x2 = some vo → At p l e (rmO 0 0 0) s m args below meth c 0 0 (MQ below (Qg G kd ad s.heap.size M (some (.int vo))) args s 0 0 (AS kd ad s.heap.size)) G kd ad 3 65 [(0, .ref (ad k0)), (1, .ref (ad k1)), (2, .int x2)] [] M) : ∀ (x2 : Int32), mX1_bendsLike_b65 k0 k1 M ih65 x2 = some vo → At p l e (rmO 0 0 0) s m args below meth c 0 0 (MQ below (Qg G kd ad s.heap.size M (some (.int vo))) args s 0 0 (AS kd ad s.heap.size)) G kd ad 3 65 [(0, .ref (ad k0)), (1, .ref (ad k1)), (2, .int x2)] [] M := by
  intro x2 hf H locs ls hI hl
  obtain ⟨hx, hb, hml, hr, hown, hts, hlk, hK, hap, hsx⟩ := id C
  unfold mX1_bendsLike_b65 at hf
  refine lv_iload_n hx hb (dc tbX1_bendsLike_0_k 36 rfl) rfl (lv_at hl 2 rfl) ?_
  refine lv_bipush (v := 10) hx hb (dc tbX1_bendsLike_0_k 37 rfl) bp_10 ?_
  refine lv_icmp_ge (tgt := 94) hx hb (dc tbX1_bendsLike_0_k 38 rfl) rfl (fun c4 => ?_) (fun c4 => ?_)
  · have hf := ite_t c4 hf
    refine lv_iconst (v := 1) hx hb (dc tbX1_bendsLike_1_k 12 rfl) ic_1 ?_
    cases hf
    exact g_zret hx hb hr hlk hI rfl (dc tbX1_bendsLike_1_k 13 rfl)
  · have hf := ite_f c4 hf
    refine lv_aload_n hx hb (dc tbX1_bendsLike_0_k 39 rfl) rfl (lv_at hl 0 rfl) ?_
    refine gg1_6 hx hb hts hown hK hI hk0.1 q_t1_115 (dc tbX1_bendsLike_1_k 0 rfl) ?_
    refine lv_iload_n hx hb (dc tbX1_bendsLike_1_k 1 rfl) rfl (lv_at hl 2 rfl) ?_
    obtain ⟨h5, hf⟩ := chk_s hf
    refine g_iald hx hb hK hI hk0.2.2.1 (okb_in h5) (dc tbX1_bendsLike_1_k 2 rfl) ?_
    refine lv_aload_n hx hb (dc tbX1_bendsLike_1_k 3 rfl) rfl (lv_at hl 1 rfl) ?_
    refine gg1_6 hx hb hts hown hK hI hk1.1 q_t1_115 (dc tbX1_bendsLike_1_k 4 rfl) ?_
    refine lv_iload_n hx hb (dc tbX1_bendsLike_1_k 5 rfl) rfl (lv_at hl 2 rfl) ?_
    obtain ⟨h6, hf⟩ := chk_s hf
    refine g_iald hx hb hK hI hk1.2.2.1 (okb_in h6) (dc tbX1_bendsLike_1_k 6 rfl) ?_
    refine lv_icmp_eq (tgt := 88) hx hb (dc tbX1_bendsLike_1_k 7 rfl) rfl (fun c7 => ?_) (fun c7 => ?_)
    · have hf := ite_t c7 hf
      obtain ⟨x2_88, e8, hf⟩ := bnd_s hf
      refine lv_iinc (v := x2_88) (lv' := [(2, .int x2_88), (0, .ref (ad k0)), (1, .ref (ad k1))]) hx hb (dc tbX1_bendsLike_1_k 10 rfl) hl (k := 2) rfl (ii_e e8 ic_1) (by decide) rfl (fun ls hl => ?_)
      refine lv_goto (tgt := 65) hx hb (dc tbX1_bendsLike_1_k 11 rfl) rfl ?_
      exact hih65 x2_88 hf _ _ _ hI (lv_sub hl [1, 2, 0] rfl)
    · have hf := ite_f c7 hf
      refine lv_iconst (v := 0) hx hb (dc tbX1_bendsLike_1_k 8 rfl) ic_0 ?_
      cases hf
      exact g_zret hx hb hr hlk hI rfl (dc tbX1_bendsLike_1_k 9 rfl)
def mX1_bendsLike_l65 (k0 : Nat) (k1 : Nat) (M : Mem) : Nat → Int32 → Option Int32
  | 0 => fun _ => none
  | n + 1 => mX1_bendsLike_b65 k0 k1 M (mX1_bendsLike_l65 k0 k1 M n)
theorem tX1_bendsLike_l65 {p : Program} {l : Launch} {e : Env} {s : State} {m : MethodId} {args : Array Value} {below : List Frame} {meth : Method} {c : Code} {G : GT} {kd : Nat → Nat × Nat} {ad : Nat → Nat} (C : Cx p s m args meth c cX1_bendsLike 3 (some .boolean) RX1 G kd ad) {k0 : Nat} {k1 : Nat} (hk0 : kPart kd k0) (hk1 : kPart kd k1) {M : Mem} {vo : Int32}   : ∀ (fuel : Nat) (x2 : Int32), mX1_bendsLike_l65 k0 k1 M fuel x2 = some vo → At p l e (rmO 0 0 0) s m args below meth c 0 0 (MQ below (Qg G kd ad s.heap.size M (some (.int vo))) args s 0 0 (AS kd ad s.heap.size)) G kd ad 3 65 [(0, .ref (ad k0)), (1, .ref (ad k1)), (2, .int x2)] [] M := by
  intro fuel
  induction fuel with
  | zero => intro x2 hf; cases hf
  | succ n IH => exact tX1_bendsLike_b65 C hk0 hk1 IH
def mX1_bendsLike_b63 (k0 : Nat) (k1 : Nat) (M : Mem) : Option Int32 := mX1_bendsLike_l65 k0 k1 M 5000 (0 : Int32)
set_option maxHeartbeats 4000000 in
set_option maxRecDepth 100000 in
theorem tX1_bendsLike_b63 {p : Program} {l : Launch} {e : Env} {s : State} {m : MethodId} {args : Array Value} {below : List Frame} {meth : Method} {c : Code} {G : GT} {kd : Nat → Nat × Nat} {ad : Nat → Nat} (C : Cx p s m args meth c cX1_bendsLike 3 (some .boolean) RX1 G kd ad) {k0 : Nat} {k1 : Nat} (hk0 : kPart kd k0) (hk1 : kPart kd k1) {M : Mem} {vo : Int32}   : mX1_bendsLike_b63 k0 k1 M = some vo → At p l e (rmO 0 0 0) s m args below meth c 0 0 (MQ below (Qg G kd ad s.heap.size M (some (.int vo))) args s 0 0 (AS kd ad s.heap.size)) G kd ad 3 63 [(0, .ref (ad k0)), (1, .ref (ad k1))] [] M := by
  intro hf H locs ls hI hl
  obtain ⟨hx, hb, hml, hr, hown, hts, hlk, hK, hap, hsx⟩ := id C
  unfold mX1_bendsLike_b63 at hf
  refine lv_iconst (v := 0) hx hb (dc tbX1_bendsLike_0_k 34 rfl) ic_0 ?_
  refine lv_istore_n (lv' := [(2, .int (0 : Int32)), (0, .ref (ad k0)), (1, .ref (ad k1))]) hx hb (dc tbX1_bendsLike_0_k 35 rfl) rfl hl (by decide) rfl (fun ls hl => ?_)
  exact tX1_bendsLike_l65 C hk0 hk1 5000 (0 : Int32) hf _ _ _ hI (lv_sub hl [1, 2, 0] rfl)
def mX1_bendsLike_b26 (k0 : Nat) (k1 : Nat) (M : Mem) (ih26 : Int32 → Option Int32) (x2 : Int32) : Option Int32 := ite2 ((rd M k0 0) ≤ x2) (mX1_bendsLike_b63 k0 k1 M) (ite2 ((9 : Int32) ≤ x2) (mX1_bendsLike_b63 k0 k1 M) (chk (okb x2 9) (chk (okb x2 9) (ite2 ((rd M (k0 + 1) (x2).toNatClampNeg) = (rd M (k1 + 1) (x2).toNatClampNeg)) (bnd (x2 + (1 : Int32)) (fun x2_57 => ih26 x2_57)) (some (0 : Int32))))))
set_option maxHeartbeats 4000000 in
set_option maxRecDepth 100000 in
theorem tX1_bendsLike_b26 {p : Program} {l : Launch} {e : Env} {s : State} {m : MethodId} {args : Array Value} {below : List Frame} {meth : Method} {c : Code} {G : GT} {kd : Nat → Nat × Nat} {ad : Nat → Nat} (C : Cx p s m args meth c cX1_bendsLike 3 (some .boolean) RX1 G kd ad) {k0 : Nat} {k1 : Nat} (hk0 : kPart kd k0) (hk1 : kPart kd k1) {M : Mem} {vo : Int32} {ih26 : Int32 → Option Int32} (hih26 : ∀ (x2 : Int32), ih26 x2 = some vo → At p l e (rmO 0 0 0) s m args below meth c 0 0 (MQ below (Qg G kd ad s.heap.size M (some (.int vo))) args s 0 0 (AS kd ad s.heap.size)) G kd ad 3 26 [(0, .ref (ad k0)), (1, .ref (ad k1)), (2, .int x2)] [] M) : ∀ (x2 : Int32), mX1_bendsLike_b26 k0 k1 M ih26 x2 = some vo → At p l e (rmO 0 0 0) s m args below meth c 0 0 (MQ below (Qg G kd ad s.heap.size M (some (.int vo))) args s 0 0 (AS kd ad s.heap.size)) G kd ad 3 26 [(0, .ref (ad k0)), (1, .ref (ad k1)), (2, .int x2)] [] M := by
  intro x2 hf H locs ls hI hl
  obtain ⟨hx, hb, hml, hr, hown, hts, hlk, hK, hap, hsx⟩ := id C
  unfold mX1_bendsLike_b26 at hf
  refine lv_iload_n hx hb (dc tbX1_bendsLike_0_k 14 rfl) rfl (lv_at hl 2 rfl) ?_
  refine lv_aload_n hx hb (dc tbX1_bendsLike_0_k 15 rfl) rfl (lv_at hl 0 rfl) ?_
  refine gg1_0 hx hb hts hown hK hI hk0.1 q_t1_101 (dc tbX1_bendsLike_0_k 16 rfl) ?_
  refine lv_icmp_ge (tgt := 63) hx hb (dc tbX1_bendsLike_0_k 17 rfl) rfl (fun c3 => ?_) (fun c3 => ?_)
  · have hf := ite_t c3 hf
    exact tX1_bendsLike_b63 C hk0 hk1 hf _ _ _ hI (lv_sub hl [0, 1] rfl)
  · have hf := ite_f c3 hf
    refine lv_iload_n hx hb (dc tbX1_bendsLike_0_k 18 rfl) rfl (lv_at hl 2 rfl) ?_
    refine lv_bipush (v := 9) hx hb (dc tbX1_bendsLike_0_k 19 rfl) bp_9 ?_
    refine lv_icmp_ge (tgt := 63) hx hb (dc tbX1_bendsLike_0_k 20 rfl) rfl (fun c9 => ?_) (fun c9 => ?_)
    · have hf := ite_t c9 hf
      exact tX1_bendsLike_b63 C hk0 hk1 hf _ _ _ hI (lv_sub hl [0, 1] rfl)
    · have hf := ite_f c9 hf
      refine lv_aload_n hx hb (dc tbX1_bendsLike_0_k 21 rfl) rfl (lv_at hl 0 rfl) ?_
      refine gg1_1 hx hb hts hown hK hI hk0.1 q_t1_105 (dc tbX1_bendsLike_0_k 22 rfl) ?_
      refine lv_iload_n hx hb (dc tbX1_bendsLike_0_k 23 rfl) rfl (lv_at hl 2 rfl) ?_
      obtain ⟨h10, hf⟩ := chk_s hf
      refine g_iald hx hb hK hI hk0.2.1 (okb_in h10) (dc tbX1_bendsLike_0_k 24 rfl) ?_
      refine lv_aload_n hx hb (dc tbX1_bendsLike_0_k 25 rfl) rfl (lv_at hl 1 rfl) ?_
      refine gg1_1 hx hb hts hown hK hI hk1.1 q_t1_105 (dc tbX1_bendsLike_0_k 26 rfl) ?_
      refine lv_iload_n hx hb (dc tbX1_bendsLike_0_k 27 rfl) rfl (lv_at hl 2 rfl) ?_
      obtain ⟨h11, hf⟩ := chk_s hf
      refine g_iald hx hb hK hI hk1.2.1 (okb_in h11) (dc tbX1_bendsLike_0_k 28 rfl) ?_
      refine lv_icmp_eq (tgt := 57) hx hb (dc tbX1_bendsLike_0_k 29 rfl) rfl (fun c12 => ?_) (fun c12 => ?_)
      · have hf := ite_t c12 hf
        obtain ⟨x2_57, e13, hf⟩ := bnd_s hf
        refine lv_iinc (v := x2_57) (lv' := [(2, .int x2_57), (0, .ref (ad k0)), (1, .ref (ad k1))]) hx hb (dc tbX1_bendsLike_0_k 32 rfl) hl (k := 2) rfl (ii_e e13 ic_1) (by decide) rfl (fun ls hl => ?_)
        refine lv_goto (tgt := 26) hx hb (dc tbX1_bendsLike_0_k 33 rfl) rfl ?_
        exact hih26 x2_57 hf _ _ _ hI (lv_sub hl [1, 2, 0] rfl)
      · have hf := ite_f c12 hf
        refine lv_iconst (v := 0) hx hb (dc tbX1_bendsLike_0_k 30 rfl) ic_0 ?_
        cases hf
        exact g_zret hx hb hr hlk hI rfl (dc tbX1_bendsLike_0_k 31 rfl)
def mX1_bendsLike_l26 (k0 : Nat) (k1 : Nat) (M : Mem) : Nat → Int32 → Option Int32
  | 0 => fun _ => none
  | n + 1 => mX1_bendsLike_b26 k0 k1 M (mX1_bendsLike_l26 k0 k1 M n)
theorem tX1_bendsLike_l26 {p : Program} {l : Launch} {e : Env} {s : State} {m : MethodId} {args : Array Value} {below : List Frame} {meth : Method} {c : Code} {G : GT} {kd : Nat → Nat × Nat} {ad : Nat → Nat} (C : Cx p s m args meth c cX1_bendsLike 3 (some .boolean) RX1 G kd ad) {k0 : Nat} {k1 : Nat} (hk0 : kPart kd k0) (hk1 : kPart kd k1) {M : Mem} {vo : Int32}   : ∀ (fuel : Nat) (x2 : Int32), mX1_bendsLike_l26 k0 k1 M fuel x2 = some vo → At p l e (rmO 0 0 0) s m args below meth c 0 0 (MQ below (Qg G kd ad s.heap.size M (some (.int vo))) args s 0 0 (AS kd ad s.heap.size)) G kd ad 3 26 [(0, .ref (ad k0)), (1, .ref (ad k1)), (2, .int x2)] [] M := by
  intro fuel
  induction fuel with
  | zero => intro x2 hf; cases hf
  | succ n IH => exact tX1_bendsLike_b26 C hk0 hk1 IH
def mX1_bendsLike (k0 : Nat) (k1 : Nat) (M : Mem) : Option Int32 := ite2 ((rd M k0 0) = (rd M k1 0)) (ite2 ((rd M k0 2) = (rd M k1 2)) (mX1_bendsLike_l26 k0 k1 M 5000 (0 : Int32)) (some (0 : Int32))) (some (0 : Int32))
set_option maxHeartbeats 4000000 in
set_option maxRecDepth 100000 in
theorem tX1_bendsLike (l : Launch) {G : GT} {kd : Nat → Nat × Nat} {ad : Nat → Nat} {k0 : Nat} {k1 : Nat} (hk0 : kPart kd k0) (hk1 : kPart kd k1) {M : Mem} {vo : Int32} (hf : mX1_bendsLike k0 k1 M = some vo) (n : Nat) : Met l yX1_bendsLike (Cond.code yX1_bendsLike cX1_bendsLike 3 (some .boolean) :: WA) (rmO 0 0 0) (Pg G kd ad n [.ref (ad k0), .ref (ad k1)] M) (Qg G kd ad n M (some (.int vo))) 0 0 (AS kd ad n) := by
  refine g_body (own := RX1) (by decide) rfl ?_ (Nat.le_of_ble_eq_true rfl)
  intro p e s m args below meth c C _ H locs ls hI hl
  obtain ⟨hx, hb, hml, hr, hown, hts, hlk, hK, hap, hsx⟩ := id C
  have hl : lv_has ls 3 [(0, .ref (ad k0)), (1, .ref (ad k1))] := hl
  unfold mX1_bendsLike at hf
  refine lv_aload_n hx hb (dc tbX1_bendsLike_0_k 0 rfl) rfl (lv_at hl 0 rfl) ?_
  refine gg1_0 hx hb hts hown hK hI hk0.1 q_t1_101 (dc tbX1_bendsLike_0_k 1 rfl) ?_
  refine lv_aload_n hx hb (dc tbX1_bendsLike_0_k 2 rfl) rfl (lv_at hl 1 rfl) ?_
  refine gg1_0 hx hb hts hown hK hI hk1.1 q_t1_101 (dc tbX1_bendsLike_0_k 3 rfl) ?_
  refine lv_icmp_ne (tgt := 22) hx hb (dc tbX1_bendsLike_0_k 4 rfl) rfl (fun c1 => ?_) (fun c1 => ?_)
  · have hf := ite_f c1 hf
    refine lv_iconst (v := 0) hx hb (dc tbX1_bendsLike_0_k 10 rfl) ic_0 ?_
    cases hf
    exact g_zret hx hb hr hlk hI rfl (dc tbX1_bendsLike_0_k 11 rfl)
  · have hf := ite_t c1 hf
    refine lv_aload_n hx hb (dc tbX1_bendsLike_0_k 5 rfl) rfl (lv_at hl 0 rfl) ?_
    refine gg1_2 hx hb hts hown hK hI hk0.1 q_t1_108 (dc tbX1_bendsLike_0_k 6 rfl) ?_
    refine lv_aload_n hx hb (dc tbX1_bendsLike_0_k 7 rfl) rfl (lv_at hl 1 rfl) ?_
    refine gg1_2 hx hb hts hown hK hI hk1.1 q_t1_108 (dc tbX1_bendsLike_0_k 8 rfl) ?_
    refine lv_icmp_eq (tgt := 24) hx hb (dc tbX1_bendsLike_0_k 9 rfl) rfl (fun c2 => ?_) (fun c2 => ?_)
    · have hf := ite_t c2 hf
      refine lv_iconst (v := 0) hx hb (dc tbX1_bendsLike_0_k 12 rfl) ic_0 ?_
      refine lv_istore_n (lv' := [(2, .int (0 : Int32)), (0, .ref (ad k0)), (1, .ref (ad k1))]) hx hb (dc tbX1_bendsLike_0_k 13 rfl) rfl hl (by decide) rfl (fun ls hl => ?_)
      exact tX1_bendsLike_l26 C hk0 hk1 5000 (0 : Int32) hf _ _ _ hI (lv_sub hl [1, 2, 0] rfl)
    · have hf := ite_f c2 hf
      refine lv_iconst (v := 0) hx hb (dc tbX1_bendsLike_0_k 10 rfl) ic_0 ?_
      cases hf
      exact g_zret hx hb hr hlk hI rfl (dc tbX1_bendsLike_0_k 11 rfl)
theorem cv_X1_bendsLike : cvF RX1 yX1_bendsLike cX1_bendsLike 3 (some .boolean) 1 := ⟨q_t3_64, q_t3_65, q_t1_3, q_t3_66, by decide +kernel⟩
def mX1_goesOnLike (k0 : Nat) (k1 : Nat) (M : Mem) : Option Int32 := ite2 ((rd M k0 13) = (rd M k1 13)) (cap (mX1_lastCode k0 M) (fun r3 => cap (mX1_lastCode k1 M) (fun r6 => ite2 (r3 = r6) (cap (mX1_lastGauge k0 M) (fun r10 => cap (mX1_lastGauge k1 M) (fun r13 => ite2 (r10 = r13) (ite2 ((rd M k0 7) = (rd M k1 7)) (ite2 ((rd M k0 8) = (rd M k1 8)) (ite2 ((rd M k0 9) = (rd M k1 9)) (some (1 : Int32)) (some (0 : Int32))) (some (0 : Int32))) (some (0 : Int32))) (some (0 : Int32))))) (some (0 : Int32))))) (some (0 : Int32))
set_option maxHeartbeats 4000000 in
set_option maxRecDepth 100000 in
theorem tX1_goesOnLike (l : Launch) {G : GT} {kd : Nat → Nat × Nat} {ad : Nat → Nat} {k0 : Nat} {k1 : Nat} (hk0 : kPart kd k0) (hk1 : kPart kd k1) {M : Mem} {vo : Int32} (hf : mX1_goesOnLike k0 k1 M = some vo) (n : Nat) : Met l yX1_goesOnLike (Cond.code yX1_goesOnLike cX1_goesOnLike 2 (some .boolean) :: WA) (rmO 1 0 0) (Pg G kd ad n [.ref (ad k0), .ref (ad k1)] M) (Qg G kd ad n M (some (.int vo))) 0 0 (AS kd ad n) := by
  refine g_body (own := RX1) (by decide) rfl ?_ (Nat.le_of_ble_eq_true rfl)
  intro p e s m args below meth c C _ H locs ls hI hl
  obtain ⟨hx, hb, hml, hr, hown, hts, hlk, hK, hap, hsx⟩ := id C
  have hl : lv_has ls 2 [(0, .ref (ad k0)), (1, .ref (ad k1))] := hl
  unfold mX1_goesOnLike at hf
  refine lv_aload_n hx hb (dc tbX1_goesOnLike_k 0 rfl) rfl (lv_at hl 0 rfl) ?_
  refine gg1_13 hx hb hts hown hK hI hk0.1 q_t1_126 (dc tbX1_goesOnLike_k 1 rfl) ?_
  refine lv_aload_n hx hb (dc tbX1_goesOnLike_k 2 rfl) rfl (lv_at hl 1 rfl) ?_
  refine gg1_13 hx hb hts hown hK hI hk1.1 q_t1_126 (dc tbX1_goesOnLike_k 3 rfl) ?_
  refine lv_icmp_ne (tgt := 70) hx hb (dc tbX1_goesOnLike_k 4 rfl) rfl (fun c1 => ?_) (fun c1 => ?_)
  · have hf := ite_f c1 hf
    refine lv_iconst (v := 0) hx hb (dc tbX1_goesOnLike_k 32 rfl) ic_0 ?_
    cases hf
    exact g_zret hx hb hr hlk hI rfl (dc tbX1_goesOnLike_k 33 rfl)
  · have hf := ite_t c1 hf
    refine lv_aload_n hx hb (dc tbX1_goesOnLike_k 5 rfl) rfl (lv_at hl 0 rfl) ?_
    obtain ⟨r3, q2, hf⟩ := cap_s hf
    refine g_callVi hx hb hml hown hts hK hap hsx hI (tX1_lastCode l hk0 q2 H.size) cv_X1_lastCode q_t3_71 rfl rfl ⟨Nat.le_of_ble_eq_true rfl, Nat.le_of_ble_eq_true rfl⟩ hk0.1 (by simp) rfl rfl rfl hl.1 rfl (Nat.le_of_ble_eq_true rfl) (dc tbX1_goesOnLike_k 6 rfl) ⟨Nat.le_of_ble_eq_true rfl, Nat.le_of_ble_eq_true rfl⟩ (fun H locs hI => ?_)
    refine lv_aload_n hx hb (dc tbX1_goesOnLike_k 7 rfl) rfl (lv_at hl 1 rfl) ?_
    obtain ⟨r6, q5, hf⟩ := cap_s hf
    refine g_callVi hx hb hml hown hts hK hap hsx hI (tX1_lastCode l hk1 q5 H.size) cv_X1_lastCode q_t3_71 rfl rfl ⟨Nat.le_of_ble_eq_true rfl, Nat.le_of_ble_eq_true rfl⟩ hk1.1 (by simp) rfl rfl rfl hl.1 rfl (Nat.le_of_ble_eq_true rfl) (dc tbX1_goesOnLike_k 8 rfl) ⟨Nat.le_of_ble_eq_true rfl, Nat.le_of_ble_eq_true rfl⟩ (fun H locs hI => ?_)
    refine lv_icmp_ne (tgt := 70) hx hb (dc tbX1_goesOnLike_k 9 rfl) rfl (fun c8 => ?_) (fun c8 => ?_)
    · have hf := ite_f c8 hf
      refine lv_iconst (v := 0) hx hb (dc tbX1_goesOnLike_k 32 rfl) ic_0 ?_
      cases hf
      exact g_zret hx hb hr hlk hI rfl (dc tbX1_goesOnLike_k 33 rfl)
    · have hf := ite_t c8 hf
      refine lv_aload_n hx hb (dc tbX1_goesOnLike_k 10 rfl) rfl (lv_at hl 0 rfl) ?_
      obtain ⟨r10, q9, hf⟩ := cap_s hf
      refine g_callVi hx hb hml hown hts hK hap hsx hI (tX1_lastGauge l hk0 q9 H.size) cv_X1_lastGauge q_t3_75 rfl rfl ⟨Nat.le_of_ble_eq_true rfl, Nat.le_of_ble_eq_true rfl⟩ hk0.1 (by simp) rfl rfl rfl hl.1 rfl (Nat.le_of_ble_eq_true rfl) (dc tbX1_goesOnLike_k 11 rfl) ⟨Nat.le_of_ble_eq_true rfl, Nat.le_of_ble_eq_true rfl⟩ (fun H locs hI => ?_)
      refine lv_aload_n hx hb (dc tbX1_goesOnLike_k 12 rfl) rfl (lv_at hl 1 rfl) ?_
      obtain ⟨r13, q12, hf⟩ := cap_s hf
      refine g_callVi hx hb hml hown hts hK hap hsx hI (tX1_lastGauge l hk1 q12 H.size) cv_X1_lastGauge q_t3_75 rfl rfl ⟨Nat.le_of_ble_eq_true rfl, Nat.le_of_ble_eq_true rfl⟩ hk1.1 (by simp) rfl rfl rfl hl.1 rfl (Nat.le_of_ble_eq_true rfl) (dc tbX1_goesOnLike_k 13 rfl) ⟨Nat.le_of_ble_eq_true rfl, Nat.le_of_ble_eq_true rfl⟩ (fun H locs hI => ?_)
      refine lv_icmp_ne (tgt := 70) hx hb (dc tbX1_goesOnLike_k 14 rfl) rfl (fun c15 => ?_) (fun c15 => ?_)
      · have hf := ite_f c15 hf
        refine lv_iconst (v := 0) hx hb (dc tbX1_goesOnLike_k 32 rfl) ic_0 ?_
        cases hf
        exact g_zret hx hb hr hlk hI rfl (dc tbX1_goesOnLike_k 33 rfl)
      · have hf := ite_t c15 hf
        refine lv_aload_n hx hb (dc tbX1_goesOnLike_k 15 rfl) rfl (lv_at hl 0 rfl) ?_
        refine gg1_7 hx hb hts hown hK hI hk0.1 q_t1_118 (dc tbX1_goesOnLike_k 16 rfl) ?_
        refine lv_aload_n hx hb (dc tbX1_goesOnLike_k 17 rfl) rfl (lv_at hl 1 rfl) ?_
        refine gg1_7 hx hb hts hown hK hI hk1.1 q_t1_118 (dc tbX1_goesOnLike_k 18 rfl) ?_
        refine lv_icmp_ne (tgt := 70) hx hb (dc tbX1_goesOnLike_k 19 rfl) rfl (fun c16 => ?_) (fun c16 => ?_)
        · have hf := ite_f c16 hf
          refine lv_iconst (v := 0) hx hb (dc tbX1_goesOnLike_k 32 rfl) ic_0 ?_
          cases hf
          exact g_zret hx hb hr hlk hI rfl (dc tbX1_goesOnLike_k 33 rfl)
        · have hf := ite_t c16 hf
          refine lv_aload_n hx hb (dc tbX1_goesOnLike_k 20 rfl) rfl (lv_at hl 0 rfl) ?_
          refine gg1_8 hx hb hts hown hK hI hk0.1 q_t1_120 (dc tbX1_goesOnLike_k 21 rfl) ?_
          refine lv_aload_n hx hb (dc tbX1_goesOnLike_k 22 rfl) rfl (lv_at hl 1 rfl) ?_
          refine gg1_8 hx hb hts hown hK hI hk1.1 q_t1_120 (dc tbX1_goesOnLike_k 23 rfl) ?_
          refine lv_icmp_ne (tgt := 70) hx hb (dc tbX1_goesOnLike_k 24 rfl) rfl (fun c17 => ?_) (fun c17 => ?_)
          · have hf := ite_f c17 hf
            refine lv_iconst (v := 0) hx hb (dc tbX1_goesOnLike_k 32 rfl) ic_0 ?_
            cases hf
            exact g_zret hx hb hr hlk hI rfl (dc tbX1_goesOnLike_k 33 rfl)
          · have hf := ite_t c17 hf
            refine lv_aload_n hx hb (dc tbX1_goesOnLike_k 25 rfl) rfl (lv_at hl 0 rfl) ?_
            refine gg1_9 hx hb hts hown hK hI hk0.1 q_t1_121 (dc tbX1_goesOnLike_k 26 rfl) ?_
            refine lv_aload_n hx hb (dc tbX1_goesOnLike_k 27 rfl) rfl (lv_at hl 1 rfl) ?_
            refine gg1_9 hx hb hts hown hK hI hk1.1 q_t1_121 (dc tbX1_goesOnLike_k 28 rfl) ?_
            refine lv_icmp_ne (tgt := 70) hx hb (dc tbX1_goesOnLike_k 29 rfl) rfl (fun c18 => ?_) (fun c18 => ?_)
            · have hf := ite_f c18 hf
              refine lv_iconst (v := 0) hx hb (dc tbX1_goesOnLike_k 32 rfl) ic_0 ?_
              cases hf
              exact g_zret hx hb hr hlk hI rfl (dc tbX1_goesOnLike_k 33 rfl)
            · have hf := ite_t c18 hf
              refine lv_iconst (v := 1) hx hb (dc tbX1_goesOnLike_k 30 rfl) ic_1 ?_
              refine lv_goto (tgt := 71) hx hb (dc tbX1_goesOnLike_k 31 rfl) rfl ?_
              cases hf
              exact g_zret hx hb hr hlk hI rfl (dc tbX1_goesOnLike_k 33 rfl)
theorem cv_X1_goesOnLike : cvF RX1 yX1_goesOnLike cX1_goesOnLike 2 (some .boolean) 1 := ⟨q_t3_68, q_t3_69, q_t1_3, q_t3_70, by decide +kernel⟩
end
/-! part 21.c2 -/
section
def mX2_walk_b272 (k0 : Nat) (k1 : Nat) (ih13 : Int32 → Int32 → Int32 → Int32 → Int32 → Int32 → Int32 → Int32 → Mem → Option (Mem × Unit)) (x3 : Int32) (x5 : Int32) (x6 : Int32) (x7 : Int32) (x8 : Int32) (x9 : Int32) (x10 : Int32) (x11 : Int32) (M : Mem) : Option (Mem × Unit) := bnd ((x11 + x3)) (fun x11_276 => ih13 x3 x5 x6 x7 x8 x9 x10 x11_276 M)
set_option maxHeartbeats 4000000 in
set_option maxRecDepth 100000 in
theorem tX2_walk_b272 {p : Program} {l : Launch} {e : Env} {s : State} {m : MethodId} {args : Array Value} {below : List Frame} {meth : Method} {c : Code} {G : GT} {kd : Nat → Nat × Nat} {ad : Nat → Nat} (C : Cx p s m args meth c cX2_walk 15 none RX2 G kd ad) {k0 : Nat} {k1 : Nat} (hk0 : kPlaces kd k0) (hk1 : kPart kd k1) {MO : Mem} {vo : Unit} {ih13 : Int32 → Int32 → Int32 → Int32 → Int32 → Int32 → Int32 → Int32 → Mem → Option (Mem × Unit)} (hih13 : ∀ (x3 : Int32) (x5 : Int32) (x6 : Int32) (x7 : Int32) (x8 : Int32) (x9 : Int32) (x10 : Int32) (x11 : Int32) (M : Mem), ih13 x3 x5 x6 x7 x8 x9 x10 x11 M = some (MO, vo) → At p l e (rmO 0 0 0) s m args below meth c 0 0 (MQ below (Qg G kd ad s.heap.size MO none) args s 0 0 (AS kd ad s.heap.size)) G kd ad 15 13 [(0, .ref (ad k0)), (1, .ref (ad k1)), (3, .int x3), (5, .int x5), (6, .int x6), (7, .int x7), (8, .int x8), (9, .int x9), (10, .int x10), (11, .int x11)] [] M) : ∀ (x3 : Int32) (x5 : Int32) (x6 : Int32) (x7 : Int32) (x8 : Int32) (x9 : Int32) (x10 : Int32) (x11 : Int32) (M : Mem), mX2_walk_b272 k0 k1 ih13 x3 x5 x6 x7 x8 x9 x10 x11 M = some (MO, vo) → At p l e (rmO 0 0 0) s m args below meth c 0 0 (MQ below (Qg G kd ad s.heap.size MO none) args s 0 0 (AS kd ad s.heap.size)) G kd ad 15 272 [(0, .ref (ad k0)), (1, .ref (ad k1)), (3, .int x3), (5, .int x5), (6, .int x6), (7, .int x7), (8, .int x8), (9, .int x9), (10, .int x10), (11, .int x11)] [] M := by
  intro x3 x5 x6 x7 x8 x9 x10 x11 M hf H locs ls hI hl
  obtain ⟨hx, hb, hml, hr, hown, hts, hlk, hK, hap, hsx⟩ := id C
  unfold mX2_walk_b272 at hf
  refine lv_iload hx hb (dc tbX2_walk_3_k 25 rfl) (lv_at hl 9 rfl) ?_
  refine lv_iload_n hx hb (dc tbX2_walk_3_k 26 rfl) rfl (lv_at hl 2 rfl) ?_
  refine lv_iadd hx hb (dc tbX2_walk_3_k 27 rfl) ?_
  obtain ⟨x11_276, e38, hf⟩ := bnd_s hf
  refine lv_ei e38 ?_
  refine lv_istore (lv' := [(11, .int x11_276), (0, .ref (ad k0)), (1, .ref (ad k1)), (3, .int x3), (5, .int x5), (6, .int x6), (7, .int x7), (8, .int x8), (9, .int x9), (10, .int x10)]) hx hb (dc tbX2_walk_3_k 28 rfl) hl (by decide) rfl (fun ls hl => ?_)
  refine lv_goto (tgt := 13) hx hb (dc tbX2_walk_3_k 29 rfl) rfl ?_
  exact hih13 x3 x5 x6 x7 x8 x9 x10 x11_276 M hf _ _ _ hI (lv_sub hl [1, 2, 3, 4, 5, 6, 7, 8, 9, 0] rfl)
def mX2_walk_b267 (k0 : Nat) (k1 : Nat) (ih13 : Int32 → Int32 → Int32 → Int32 → Int32 → Int32 → Int32 → Int32 → Mem → Option (Mem × Unit)) (x3 : Int32) (x5 : Int32) (x6 : Int32) (x7 : Int32) (x8 : Int32) (x9 : Int32) (x11 : Int32) (y0 : Int32) (y1 : Int32) (M : Mem) : Option (Mem × Unit) := bnd (((y0 + y1) &&& (3 : Int32))) (fun x10_270 => mX2_walk_b272 k0 k1 ih13 x3 x5 x6 x7 x8 x9 x10_270 x11 M)
set_option maxHeartbeats 4000000 in
set_option maxRecDepth 100000 in
theorem tX2_walk_b267 {p : Program} {l : Launch} {e : Env} {s : State} {m : MethodId} {args : Array Value} {below : List Frame} {meth : Method} {c : Code} {G : GT} {kd : Nat → Nat × Nat} {ad : Nat → Nat} (C : Cx p s m args meth c cX2_walk 15 none RX2 G kd ad) {k0 : Nat} {k1 : Nat} (hk0 : kPlaces kd k0) (hk1 : kPart kd k1) {MO : Mem} {vo : Unit} {ih13 : Int32 → Int32 → Int32 → Int32 → Int32 → Int32 → Int32 → Int32 → Mem → Option (Mem × Unit)} (hih13 : ∀ (x3 : Int32) (x5 : Int32) (x6 : Int32) (x7 : Int32) (x8 : Int32) (x9 : Int32) (x10 : Int32) (x11 : Int32) (M : Mem), ih13 x3 x5 x6 x7 x8 x9 x10 x11 M = some (MO, vo) → At p l e (rmO 0 0 0) s m args below meth c 0 0 (MQ below (Qg G kd ad s.heap.size MO none) args s 0 0 (AS kd ad s.heap.size)) G kd ad 15 13 [(0, .ref (ad k0)), (1, .ref (ad k1)), (3, .int x3), (5, .int x5), (6, .int x6), (7, .int x7), (8, .int x8), (9, .int x9), (10, .int x10), (11, .int x11)] [] M) : ∀ (x3 : Int32) (x5 : Int32) (x6 : Int32) (x7 : Int32) (x8 : Int32) (x9 : Int32) (x11 : Int32) (y0 : Int32) (y1 : Int32) (M : Mem), mX2_walk_b267 k0 k1 ih13 x3 x5 x6 x7 x8 x9 x11 y0 y1 M = some (MO, vo) → At p l e (rmO 0 0 0) s m args below meth c 0 0 (MQ below (Qg G kd ad s.heap.size MO none) args s 0 0 (AS kd ad s.heap.size)) G kd ad 15 267 [(0, .ref (ad k0)), (1, .ref (ad k1)), (3, .int x3), (5, .int x5), (6, .int x6), (7, .int x7), (8, .int x8), (9, .int x9), (11, .int x11)] [.int y1, .int y0] M := by
  intro x3 x5 x6 x7 x8 x9 x11 y0 y1 M hf H locs ls hI hl
  obtain ⟨hx, hb, hml, hr, hown, hts, hlk, hK, hap, hsx⟩ := id C
  unfold mX2_walk_b267 at hf
  refine lv_iadd hx hb (dc tbX2_walk_3_k 21 rfl) ?_
  refine lv_iconst (v := 3) hx hb (dc tbX2_walk_3_k 22 rfl) ic_3 ?_
  refine lv_iand hx hb (dc tbX2_walk_3_k 23 rfl) ?_
  obtain ⟨x10_270, e42, hf⟩ := bnd_s hf
  refine lv_ei e42 ?_
  refine lv_istore (lv' := [(10, .int x10_270), (0, .ref (ad k0)), (1, .ref (ad k1)), (3, .int x3), (5, .int x5), (6, .int x6), (7, .int x7), (8, .int x8), (9, .int x9), (11, .int x11)]) hx hb (dc tbX2_walk_3_k 24 rfl) hl (by decide) rfl (fun ls hl => ?_)
  exact tX2_walk_b272 C hk0 hk1 hih13 x3 x5 x6 x7 x8 x9 x10_270 x11 M hf _ _ _ hI (lv_sub hl [1, 2, 3, 4, 5, 6, 7, 8, 0, 9] rfl)
def mX2_walk_b249 (k0 : Nat) (k1 : Nat) (ih13 : Int32 → Int32 → Int32 → Int32 → Int32 → Int32 → Int32 → Int32 → Mem → Option (Mem × Unit)) (x3 : Int32) (x5 : Int32) (x6 : Int32) (x7 : Int32) (x8 : Int32) (x9 : Int32) (x10 : Int32) (x11 : Int32) (y0 : Int32) (M : Mem) : Option (Mem × Unit) := ite2 (y0 = 0) (mX2_walk_b267 k0 k1 ih13 x3 x5 x6 x7 x8 x9 x11 x10 ((4 : Int32) - x5) M) (mX2_walk_b267 k0 k1 ih13 x3 x5 x6 x7 x8 x9 x11 x10 x5 M)
set_option maxHeartbeats 4000000 in
set_option maxRecDepth 100000 in
theorem tX2_walk_b249 {p : Program} {l : Launch} {e : Env} {s : State} {m : MethodId} {args : Array Value} {below : List Frame} {meth : Method} {c : Code} {G : GT} {kd : Nat → Nat × Nat} {ad : Nat → Nat} (C : Cx p s m args meth c cX2_walk 15 none RX2 G kd ad) {k0 : Nat} {k1 : Nat} (hk0 : kPlaces kd k0) (hk1 : kPart kd k1) {MO : Mem} {vo : Unit} {ih13 : Int32 → Int32 → Int32 → Int32 → Int32 → Int32 → Int32 → Int32 → Mem → Option (Mem × Unit)} (hih13 : ∀ (x3 : Int32) (x5 : Int32) (x6 : Int32) (x7 : Int32) (x8 : Int32) (x9 : Int32) (x10 : Int32) (x11 : Int32) (M : Mem), ih13 x3 x5 x6 x7 x8 x9 x10 x11 M = some (MO, vo) → At p l e (rmO 0 0 0) s m args below meth c 0 0 (MQ below (Qg G kd ad s.heap.size MO none) args s 0 0 (AS kd ad s.heap.size)) G kd ad 15 13 [(0, .ref (ad k0)), (1, .ref (ad k1)), (3, .int x3), (5, .int x5), (6, .int x6), (7, .int x7), (8, .int x8), (9, .int x9), (10, .int x10), (11, .int x11)] [] M) : ∀ (x3 : Int32) (x5 : Int32) (x6 : Int32) (x7 : Int32) (x8 : Int32) (x9 : Int32) (x10 : Int32) (x11 : Int32) (y0 : Int32) (M : Mem), mX2_walk_b249 k0 k1 ih13 x3 x5 x6 x7 x8 x9 x10 x11 y0 M = some (MO, vo) → At p l e (rmO 0 0 0) s m args below meth c 0 0 (MQ below (Qg G kd ad s.heap.size MO none) args s 0 0 (AS kd ad s.heap.size)) G kd ad 15 249 [(0, .ref (ad k0)), (1, .ref (ad k1)), (3, .int x3), (5, .int x5), (6, .int x6), (7, .int x7), (8, .int x8), (9, .int x9), (10, .int x10), (11, .int x11)] [.int y0] M := by
  intro x3 x5 x6 x7 x8 x9 x10 x11 y0 M hf H locs ls hI hl
  obtain ⟨hx, hb, hml, hr, hown, hts, hlk, hK, hap, hsx⟩ := id C
  unfold mX2_walk_b249 at hf
  refine lv_istore (lv' := [(14, .int y0), (0, .ref (ad k0)), (1, .ref (ad k1)), (3, .int x3), (5, .int x5), (6, .int x6), (7, .int x7), (8, .int x8), (9, .int x9), (10, .int x10), (11, .int x11)]) hx hb (dc tbX2_walk_3_k 12 rfl) hl (by decide) rfl (fun ls hl => ?_)
  refine lv_iload hx hb (dc tbX2_walk_3_k 13 rfl) (lv_at hl 9 rfl) ?_
  refine lv_iload hx hb (dc tbX2_walk_3_k 14 rfl) (lv_at hl 0 rfl) ?_
  refine lv_if_eq (tgt := 263) hx hb (dc tbX2_walk_3_k 15 rfl) rfl (fun c41 => ?_) (fun c41 => ?_)
  · have hf := ite_t c41 hf
    refine lv_iconst (v := 4) hx hb (dc tbX2_walk_3_k 18 rfl) ic_4 ?_
    refine lv_iload hx hb (dc tbX2_walk_3_k 19 rfl) (lv_at hl 4 rfl) ?_
    refine lv_isub hx hb (dc tbX2_walk_3_k 20 rfl) ?_
    exact tX2_walk_b267 C hk0 hk1 hih13 x3 x5 x6 x7 x8 x9 x11 x10 ((4 : Int32) - x5) M hf _ _ _ hI (lv_sub hl [1, 2, 3, 4, 5, 6, 7, 8, 10] rfl)
  · have hf := ite_f c41 hf
    refine lv_iload hx hb (dc tbX2_walk_3_k 16 rfl) (lv_at hl 4 rfl) ?_
    refine lv_goto (tgt := 267) hx hb (dc tbX2_walk_3_k 17 rfl) rfl ?_
    exact tX2_walk_b267 C hk0 hk1 hih13 x3 x5 x6 x7 x8 x9 x11 x10 x5 M hf _ _ _ hI (lv_sub hl [1, 2, 3, 4, 5, 6, 7, 8, 10] rfl)
def mX2_walk_b217 (k0 : Nat) (k1 : Nat) (ih13 : Int32 → Int32 → Int32 → Int32 → Int32 → Int32 → Int32 → Int32 → Mem → Option (Mem × Unit)) (x3 : Int32) (x5 : Int32) (x6 : Int32) (x7 : Int32) (x8 : Int32) (x9 : Int32) (x10 : Int32) (x11 : Int32) (y0 : Int32) (M : Mem) : Option (Mem × Unit) := ite2 (y0 < 0) (mX2_walk_b272 k0 k1 ih13 x3 x5 x6 x7 x8 x9 x10 x11 M) (ite2 (((x6 >>> (y0 &&& 31)) &&& (1 : Int32)) = 0) (mX2_walk_b272 k0 k1 ih13 x3 x5 x6 x7 x8 x9 x10 x11 M) (ite2 (((x7 >>> (y0 &&& 31)) &&& (1 : Int32)) = 0) (mX2_walk_b249 k0 k1 ih13 x3 x5 x6 x7 x8 x9 x10 x11 (0 : Int32) M) (mX2_walk_b249 k0 k1 ih13 x3 x5 x6 x7 x8 x9 x10 x11 (1 : Int32) M)))
set_option maxHeartbeats 4000000 in
set_option maxRecDepth 100000 in
theorem tX2_walk_b217 {p : Program} {l : Launch} {e : Env} {s : State} {m : MethodId} {args : Array Value} {below : List Frame} {meth : Method} {c : Code} {G : GT} {kd : Nat → Nat × Nat} {ad : Nat → Nat} (C : Cx p s m args meth c cX2_walk 15 none RX2 G kd ad) {k0 : Nat} {k1 : Nat} (hk0 : kPlaces kd k0) (hk1 : kPart kd k1) {MO : Mem} {vo : Unit} {ih13 : Int32 → Int32 → Int32 → Int32 → Int32 → Int32 → Int32 → Int32 → Mem → Option (Mem × Unit)} (hih13 : ∀ (x3 : Int32) (x5 : Int32) (x6 : Int32) (x7 : Int32) (x8 : Int32) (x9 : Int32) (x10 : Int32) (x11 : Int32) (M : Mem), ih13 x3 x5 x6 x7 x8 x9 x10 x11 M = some (MO, vo) → At p l e (rmO 0 0 0) s m args below meth c 0 0 (MQ below (Qg G kd ad s.heap.size MO none) args s 0 0 (AS kd ad s.heap.size)) G kd ad 15 13 [(0, .ref (ad k0)), (1, .ref (ad k1)), (3, .int x3), (5, .int x5), (6, .int x6), (7, .int x7), (8, .int x8), (9, .int x9), (10, .int x10), (11, .int x11)] [] M) : ∀ (x3 : Int32) (x5 : Int32) (x6 : Int32) (x7 : Int32) (x8 : Int32) (x9 : Int32) (x10 : Int32) (x11 : Int32) (y0 : Int32) (M : Mem), mX2_walk_b217 k0 k1 ih13 x3 x5 x6 x7 x8 x9 x10 x11 y0 M = some (MO, vo) → At p l e (rmO 0 0 0) s m args below meth c 0 0 (MQ below (Qg G kd ad s.heap.size MO none) args s 0 0 (AS kd ad s.heap.size)) G kd ad 15 217 [(0, .ref (ad k0)), (1, .ref (ad k1)), (3, .int x3), (5, .int x5), (6, .int x6), (7, .int x7), (8, .int x8), (9, .int x9), (10, .int x10), (11, .int x11)] [.int y0] M := by
  intro x3 x5 x6 x7 x8 x9 x10 x11 y0 M hf H locs ls hI hl
  obtain ⟨hx, hb, hml, hr, hown, hts, hlk, hK, hap, hsx⟩ := id C
  unfold mX2_walk_b217 at hf
  refine lv_istore (lv' := [(13, .int y0), (0, .ref (ad k0)), (1, .ref (ad k1)), (3, .int x3), (5, .int x5), (6, .int x6), (7, .int x7), (8, .int x8), (9, .int x9), (10, .int x10), (11, .int x11)]) hx hb (dc tbX2_walk_2_k 34 rfl) hl (by decide) rfl (fun ls hl => ?_)
  refine lv_iload hx hb (dc tbX2_walk_2_k 35 rfl) (lv_at hl 0 rfl) ?_
  refine lv_if_lt (tgt := 272) hx hb (dc tbX2_walk_2_k 36 rfl) rfl (fun c37 => ?_) (fun c37 => ?_)
  · have hf := ite_t c37 hf
    exact tX2_walk_b272 C hk0 hk1 hih13 x3 x5 x6 x7 x8 x9 x10 x11 M hf _ _ _ hI (lv_sub hl [1, 2, 3, 4, 5, 6, 7, 8, 9, 10] rfl)
  · have hf := ite_f c37 hf
    refine lv_iload hx hb (dc tbX2_walk_2_k 37 rfl) (lv_at hl 5 rfl) ?_
    refine lv_iload hx hb (dc tbX2_walk_2_k 38 rfl) (lv_at hl 0 rfl) ?_
    refine lv_ishr hx hb (dc tbX2_walk_2_k 39 rfl) ?_
    refine lv_iconst (v := 1) hx hb (dc tbX2_walk_3_k 0 rfl) ic_1 ?_
    refine lv_iand hx hb (dc tbX2_walk_3_k 1 rfl) ?_
    refine lv_if_eq (tgt := 272) hx hb (dc tbX2_walk_3_k 2 rfl) rfl (fun c39 => ?_) (fun c39 => ?_)
    · have hf := ite_t c39 hf
      exact tX2_walk_b272 C hk0 hk1 hih13 x3 x5 x6 x7 x8 x9 x10 x11 M hf _ _ _ hI (lv_sub hl [1, 2, 3, 4, 5, 6, 7, 8, 9, 10] rfl)
    · have hf := ite_f c39 hf
      refine lv_iload hx hb (dc tbX2_walk_3_k 3 rfl) (lv_at hl 6 rfl) ?_
      refine lv_iload hx hb (dc tbX2_walk_3_k 4 rfl) (lv_at hl 0 rfl) ?_
      refine lv_ishr hx hb (dc tbX2_walk_3_k 5 rfl) ?_
      refine lv_iconst (v := 1) hx hb (dc tbX2_walk_3_k 6 rfl) ic_1 ?_
      refine lv_iand hx hb (dc tbX2_walk_3_k 7 rfl) ?_
      refine lv_if_eq (tgt := 248) hx hb (dc tbX2_walk_3_k 8 rfl) rfl (fun c40 => ?_) (fun c40 => ?_)
      · have hf := ite_t c40 hf
        refine lv_iconst (v := 0) hx hb (dc tbX2_walk_3_k 11 rfl) ic_0 ?_
        exact tX2_walk_b249 C hk0 hk1 hih13 x3 x5 x6 x7 x8 x9 x10 x11 (0 : Int32) M hf _ _ _ hI (lv_sub hl [1, 2, 3, 4, 5, 6, 7, 8, 9, 10] rfl)
      · have hf := ite_f c40 hf
        refine lv_iconst (v := 1) hx hb (dc tbX2_walk_3_k 9 rfl) ic_1 ?_
        refine lv_goto (tgt := 249) hx hb (dc tbX2_walk_3_k 10 rfl) rfl ?_
        exact tX2_walk_b249 C hk0 hk1 hih13 x3 x5 x6 x7 x8 x9 x10 x11 (1 : Int32) M hf _ _ _ hI (lv_sub hl [1, 2, 3, 4, 5, 6, 7, 8, 9, 10] rfl)
def mX2_walk_b108 (k0 : Nat) (k1 : Nat) (ih13 : Int32 → Int32 → Int32 → Int32 → Int32 → Int32 → Int32 → Int32 → Mem → Option (Mem × Unit)) (x3 : Int32) (x5 : Int32) (x6 : Int32) (x7 : Int32) (x8 : Int32) (x9 : Int32) (x10 : Int32) (x11 : Int32) (y1 : Int32) (y2 : Int32) (y3 : Int32) (M : Mem) : Option (Mem × Unit) := chk (okb y1 9) (bnd (wr M (k0 + 2) (y1).toNatClampNeg (y2 + y3)) (fun M15 => chk (okb x11 9) (chk (okb x11 9) (bnd (wr M15 (k0 + 3) (x11).toNatClampNeg (imin x8 (rd M15 (k0 + 1) (x11).toNatClampNeg))) (fun M19 => chk (okb x11 9) (chk (okb x11 9) (bnd (wr M19 (k0 + 4) (x11).toNatClampNeg (imax x8 (rd M19 (k0 + 1) (x11).toNatClampNeg))) (fun M23 => chk (okb x11 9) (chk (okb x11 9) (bnd (wr M23 (k0 + 5) (x11).toNatClampNeg (imin x9 (rd M23 (k0 + 2) (x11).toNatClampNeg))) (fun M27 => chk (okb x11 9) (chk (okb x11 9) (bnd (wr M27 (k0 + 6) (x11).toNatClampNeg (imax x9 (rd M27 (k0 + 2) (x11).toNatClampNeg))) (fun M31 => chk (okb x11 9) (bnd ((rd M31 (k0 + 1) (x11).toNatClampNeg)) (fun x8_193 => chk (okb x11 9) (bnd ((rd M31 (k0 + 2) (x11).toNatClampNeg)) (fun x9_202 => ite2 (x3 ≤ 0) (mX2_walk_b217 k0 k1 ih13 x3 x5 x6 x7 x8_193 x9_202 x10 x11 (x11 - (1 : Int32)) M31) (mX2_walk_b217 k0 k1 ih13 x3 x5 x6 x7 x8_193 x9_202 x10 x11 x11 M31)))))))))))))))))))
set_option maxHeartbeats 4000000 in
set_option maxRecDepth 100000 in
theorem tX2_walk_b108 {p : Program} {l : Launch} {e : Env} {s : State} {m : MethodId} {args : Array Value} {below : List Frame} {meth : Method} {c : Code} {G : GT} {kd : Nat → Nat × Nat} {ad : Nat → Nat} (C : Cx p s m args meth c cX2_walk 15 none RX2 G kd ad) {k0 : Nat} {k1 : Nat} (hk0 : kPlaces kd k0) (hk1 : kPart kd k1) {MO : Mem} {vo : Unit} {ih13 : Int32 → Int32 → Int32 → Int32 → Int32 → Int32 → Int32 → Int32 → Mem → Option (Mem × Unit)} (hih13 : ∀ (x3 : Int32) (x5 : Int32) (x6 : Int32) (x7 : Int32) (x8 : Int32) (x9 : Int32) (x10 : Int32) (x11 : Int32) (M : Mem), ih13 x3 x5 x6 x7 x8 x9 x10 x11 M = some (MO, vo) → At p l e (rmO 0 0 0) s m args below meth c 0 0 (MQ below (Qg G kd ad s.heap.size MO none) args s 0 0 (AS kd ad s.heap.size)) G kd ad 15 13 [(0, .ref (ad k0)), (1, .ref (ad k1)), (3, .int x3), (5, .int x5), (6, .int x6), (7, .int x7), (8, .int x8), (9, .int x9), (10, .int x10), (11, .int x11)] [] M) : ∀ (x3 : Int32) (x5 : Int32) (x6 : Int32) (x7 : Int32) (x8 : Int32) (x9 : Int32) (x10 : Int32) (x11 : Int32) (y1 : Int32) (y2 : Int32) (y3 : Int32) (M : Mem), mX2_walk_b108 k0 k1 ih13 x3 x5 x6 x7 x8 x9 x10 x11 y1 y2 y3 M = some (MO, vo) → At p l e (rmO 0 0 0) s m args below meth c 0 0 (MQ below (Qg G kd ad s.heap.size MO none) args s 0 0 (AS kd ad s.heap.size)) G kd ad 15 108 [(0, .ref (ad k0)), (1, .ref (ad k1)), (3, .int x3), (5, .int x5), (6, .int x6), (7, .int x7), (8, .int x8), (9, .int x9), (10, .int x10), (11, .int x11)] [.int y3, .int y2, .int y1, .ref (ad (k0 + 2))] M := by
  intro x3 x5 x6 x7 x8 x9 x10 x11 y1 y2 y3 M hf H locs ls hI hl
  obtain ⟨hx, hb, hml, hr, hown, hts, hlk, hK, hap, hsx⟩ := id C
  unfold mX2_walk_b108 at hf
  refine lv_iadd hx hb (dc tbX2_walk_1_k 15 rfl) ?_
  obtain ⟨h13, hf⟩ := chk_s hf
  obtain ⟨M15, e14, hf⟩ := bnd_s hf
  refine g_iast hx hb hK hap hI hk0.2.2.1 (okb_in h13) (dc tbX2_walk_1_k 16 rfl) e14 (fun H locs hI => ?_)
  refine lv_aload_n hx hb (dc tbX2_walk_1_k 17 rfl) rfl (lv_at hl 0 rfl) ?_
  refine gg2_2 hx hb hts hown hK hI hk0.1 q_t1_204 (dc tbX2_walk_1_k 18 rfl) ?_
  refine lv_iload hx hb (dc tbX2_walk_1_k 19 rfl) (lv_at hl 9 rfl) ?_
  refine lv_iload hx hb (dc tbX2_walk_1_k 20 rfl) (lv_at hl 6 rfl) ?_
  refine lv_aload_n hx hb (dc tbX2_walk_1_k 21 rfl) rfl (lv_at hl 0 rfl) ?_
  refine gg2_0 hx hb hts hown hK hI hk0.1 q_t1_200 (dc tbX2_walk_1_k 22 rfl) ?_
  refine lv_iload hx hb (dc tbX2_walk_1_k 23 rfl) (lv_at hl 9 rfl) ?_
  obtain ⟨h16, hf⟩ := chk_s hf
  refine g_iald hx hb hK hI hk0.2.1 (okb_in h16) (dc tbX2_walk_1_k 24 rfl) ?_
  refine va_mmin hx hb (hml.trans hl.1.symm) hown (hts _ q_t2_199) (hts _ q_t2_200) (hts _ q_t1_22) (hts _ q_t2_201) (Nat.le_of_ble_eq_true rfl) (Nat.le_of_ble_eq_true rfl) (Nat.le_of_ble_eq_true rfl) (Nat.le_of_ble_eq_true rfl) (dc tbX2_walk_1_k 25 rfl) ?_
  refine lv_et (show (if _ then _ else _) = (imin x8 (rd M15 (k0 + 1) (x11).toNatClampNeg)) from rfl) ?_
  obtain ⟨h17, hf⟩ := chk_s hf
  obtain ⟨M19, e18, hf⟩ := bnd_s hf
  refine g_iast hx hb hK hap hI hk0.2.2.2.1 (okb_in h17) (dc tbX2_walk_1_k 26 rfl) e18 (fun H locs hI => ?_)
  refine lv_aload_n hx hb (dc tbX2_walk_1_k 27 rfl) rfl (lv_at hl 0 rfl) ?_
  refine gg2_3 hx hb hts hown hK hI hk0.1 q_t1_205 (dc tbX2_walk_1_k 28 rfl) ?_
  refine lv_iload hx hb (dc tbX2_walk_1_k 29 rfl) (lv_at hl 9 rfl) ?_
  refine lv_iload hx hb (dc tbX2_walk_1_k 30 rfl) (lv_at hl 6 rfl) ?_
  refine lv_aload_n hx hb (dc tbX2_walk_1_k 31 rfl) rfl (lv_at hl 0 rfl) ?_
  refine gg2_0 hx hb hts hown hK hI hk0.1 q_t1_200 (dc tbX2_walk_1_k 32 rfl) ?_
  refine lv_iload hx hb (dc tbX2_walk_1_k 33 rfl) (lv_at hl 9 rfl) ?_
  obtain ⟨h20, hf⟩ := chk_s hf
  refine g_iald hx hb hK hI hk0.2.1 (okb_in h20) (dc tbX2_walk_1_k 34 rfl) ?_
  refine va_mmax hx hb (hml.trans hl.1.symm) hown (hts _ q_t2_202) (hts _ q_t2_203) (hts _ q_t1_22) (hts _ q_t2_204) (Nat.le_of_ble_eq_true rfl) (Nat.le_of_ble_eq_true rfl) (Nat.le_of_ble_eq_true rfl) (Nat.le_of_ble_eq_true rfl) (dc tbX2_walk_1_k 35 rfl) ?_
  refine lv_et (show (if _ then _ else _) = (imax x8 (rd M19 (k0 + 1) (x11).toNatClampNeg)) from rfl) ?_
  obtain ⟨h21, hf⟩ := chk_s hf
  obtain ⟨M23, e22, hf⟩ := bnd_s hf
  refine g_iast hx hb hK hap hI hk0.2.2.2.2.1 (okb_in h21) (dc tbX2_walk_1_k 36 rfl) e22 (fun H locs hI => ?_)
  refine lv_aload_n hx hb (dc tbX2_walk_1_k 37 rfl) rfl (lv_at hl 0 rfl) ?_
  refine gg2_4 hx hb hts hown hK hI hk0.1 q_t1_206 (dc tbX2_walk_1_k 38 rfl) ?_
  refine lv_iload hx hb (dc tbX2_walk_1_k 39 rfl) (lv_at hl 9 rfl) ?_
  refine lv_iload hx hb (dc tbX2_walk_2_k 0 rfl) (lv_at hl 7 rfl) ?_
  refine lv_aload_n hx hb (dc tbX2_walk_2_k 1 rfl) rfl (lv_at hl 0 rfl) ?_
  refine gg2_1 hx hb hts hown hK hI hk0.1 q_t1_202 (dc tbX2_walk_2_k 2 rfl) ?_
  refine lv_iload hx hb (dc tbX2_walk_2_k 3 rfl) (lv_at hl 9 rfl) ?_
  obtain ⟨h24, hf⟩ := chk_s hf
  refine g_iald hx hb hK hI hk0.2.2.1 (okb_in h24) (dc tbX2_walk_2_k 4 rfl) ?_
  refine va_mmin hx hb (hml.trans hl.1.symm) hown (hts _ q_t2_199) (hts _ q_t2_200) (hts _ q_t1_22) (hts _ q_t2_201) (Nat.le_of_ble_eq_true rfl) (Nat.le_of_ble_eq_true rfl) (Nat.le_of_ble_eq_true rfl) (Nat.le_of_ble_eq_true rfl) (dc tbX2_walk_2_k 5 rfl) ?_
  refine lv_et (show (if _ then _ else _) = (imin x9 (rd M23 (k0 + 2) (x11).toNatClampNeg)) from rfl) ?_
  obtain ⟨h25, hf⟩ := chk_s hf
  obtain ⟨M27, e26, hf⟩ := bnd_s hf
  refine g_iast hx hb hK hap hI hk0.2.2.2.2.2.1 (okb_in h25) (dc tbX2_walk_2_k 6 rfl) e26 (fun H locs hI => ?_)
  refine lv_aload_n hx hb (dc tbX2_walk_2_k 7 rfl) rfl (lv_at hl 0 rfl) ?_
  refine gg2_5 hx hb hts hown hK hI hk0.1 q_t1_207 (dc tbX2_walk_2_k 8 rfl) ?_
  refine lv_iload hx hb (dc tbX2_walk_2_k 9 rfl) (lv_at hl 9 rfl) ?_
  refine lv_iload hx hb (dc tbX2_walk_2_k 10 rfl) (lv_at hl 7 rfl) ?_
  refine lv_aload_n hx hb (dc tbX2_walk_2_k 11 rfl) rfl (lv_at hl 0 rfl) ?_
  refine gg2_1 hx hb hts hown hK hI hk0.1 q_t1_202 (dc tbX2_walk_2_k 12 rfl) ?_
  refine lv_iload hx hb (dc tbX2_walk_2_k 13 rfl) (lv_at hl 9 rfl) ?_
  obtain ⟨h28, hf⟩ := chk_s hf
  refine g_iald hx hb hK hI hk0.2.2.1 (okb_in h28) (dc tbX2_walk_2_k 14 rfl) ?_
  refine va_mmax hx hb (hml.trans hl.1.symm) hown (hts _ q_t2_202) (hts _ q_t2_203) (hts _ q_t1_22) (hts _ q_t2_204) (Nat.le_of_ble_eq_true rfl) (Nat.le_of_ble_eq_true rfl) (Nat.le_of_ble_eq_true rfl) (Nat.le_of_ble_eq_true rfl) (dc tbX2_walk_2_k 15 rfl) ?_
  refine lv_et (show (if _ then _ else _) = (imax x9 (rd M27 (k0 + 2) (x11).toNatClampNeg)) from rfl) ?_
  obtain ⟨h29, hf⟩ := chk_s hf
  obtain ⟨M31, e30, hf⟩ := bnd_s hf
  refine g_iast hx hb hK hap hI hk0.2.2.2.2.2.2 (okb_in h29) (dc tbX2_walk_2_k 16 rfl) e30 (fun H locs hI => ?_)
  refine lv_aload_n hx hb (dc tbX2_walk_2_k 17 rfl) rfl (lv_at hl 0 rfl) ?_
  refine gg2_0 hx hb hts hown hK hI hk0.1 q_t1_200 (dc tbX2_walk_2_k 18 rfl) ?_
  refine lv_iload hx hb (dc tbX2_walk_2_k 19 rfl) (lv_at hl 9 rfl) ?_
  obtain ⟨h32, hf⟩ := chk_s hf
  refine g_iald hx hb hK hI hk0.2.1 (okb_in h32) (dc tbX2_walk_2_k 20 rfl) ?_
  obtain ⟨x8_193, e33, hf⟩ := bnd_s hf
  refine lv_ei e33 ?_
  refine lv_istore (lv' := [(8, .int x8_193), (0, .ref (ad k0)), (1, .ref (ad k1)), (3, .int x3), (5, .int x5), (6, .int x6), (7, .int x7), (9, .int x9), (10, .int x10), (11, .int x11)]) hx hb (dc tbX2_walk_2_k 21 rfl) hl (by decide) rfl (fun ls hl => ?_)
  refine lv_aload_n hx hb (dc tbX2_walk_2_k 22 rfl) rfl (lv_at hl 1 rfl) ?_
  refine gg2_1 hx hb hts hown hK hI hk0.1 q_t1_202 (dc tbX2_walk_2_k 23 rfl) ?_
  refine lv_iload hx hb (dc tbX2_walk_2_k 24 rfl) (lv_at hl 9 rfl) ?_
  obtain ⟨h34, hf⟩ := chk_s hf
  refine g_iald hx hb hK hI hk0.2.2.1 (okb_in h34) (dc tbX2_walk_2_k 25 rfl) ?_
  obtain ⟨x9_202, e35, hf⟩ := bnd_s hf
  refine lv_ei e35 ?_
  refine lv_istore (lv' := [(9, .int x9_202), (8, .int x8_193), (0, .ref (ad k0)), (1, .ref (ad k1)), (3, .int x3), (5, .int x5), (6, .int x6), (7, .int x7), (10, .int x10), (11, .int x11)]) hx hb (dc tbX2_walk_2_k 26 rfl) hl (by decide) rfl (fun ls hl => ?_)
  refine lv_iload_n hx hb (dc tbX2_walk_2_k 27 rfl) rfl (lv_at hl 4 rfl) ?_
  refine lv_if_le (tgt := 213) hx hb (dc tbX2_walk_2_k 28 rfl) rfl (fun c36 => ?_) (fun c36 => ?_)
  · have hf := ite_t c36 hf
    refine lv_iload hx hb (dc tbX2_walk_2_k 31 rfl) (lv_at hl 9 rfl) ?_
    refine lv_iconst (v := 1) hx hb (dc tbX2_walk_2_k 32 rfl) ic_1 ?_
    refine lv_isub hx hb (dc tbX2_walk_2_k 33 rfl) ?_
    exact tX2_walk_b217 C hk0 hk1 hih13 x3 x5 x6 x7 x8_193 x9_202 x10 x11 (x11 - (1 : Int32)) M31 hf _ _ _ hI (lv_sub hl [2, 3, 4, 5, 6, 7, 1, 0, 8, 9] rfl)
  · have hf := ite_f c36 hf
    refine lv_iload hx hb (dc tbX2_walk_2_k 29 rfl) (lv_at hl 9 rfl) ?_
    refine lv_goto (tgt := 217) hx hb (dc tbX2_walk_2_k 30 rfl) rfl ?_
    exact tX2_walk_b217 C hk0 hk1 hih13 x3 x5 x6 x7 x8_193 x9_202 x10 x11 x11 M31 hf _ _ _ hI (lv_sub hl [2, 3, 4, 5, 6, 7, 1, 0, 8, 9] rfl)
def mX2_walk_b75 (k0 : Nat) (k1 : Nat) (ih13 : Int32 → Int32 → Int32 → Int32 → Int32 → Int32 → Int32 → Int32 → Mem → Option (Mem × Unit)) (x3 : Int32) (x5 : Int32) (x6 : Int32) (x7 : Int32) (x8 : Int32) (x9 : Int32) (x10 : Int32) (x11 : Int32) (x12 : Int32) (y1 : Int32) (y2 : Int32) (y3 : Int32) (M : Mem) : Option (Mem × Unit) := chk (okb y1 9) (bnd (wr M (k0 + 1) (y1).toNatClampNeg (y2 + y3)) (fun M10 => ite2 (x10 = 0) (mX2_walk_b108 k0 k1 ih13 x3 x5 x6 x7 x8 x9 x10 x11 x11 x9 x12 M10) (ite2 (x10 = (2 : Int32)) (mX2_walk_b108 k0 k1 ih13 x3 x5 x6 x7 x8 x9 x10 x11 x11 x9 (-x12) M10) (mX2_walk_b108 k0 k1 ih13 x3 x5 x6 x7 x8 x9 x10 x11 x11 x9 (0 : Int32) M10))))
set_option maxHeartbeats 4000000 in
set_option maxRecDepth 100000 in
theorem tX2_walk_b75 {p : Program} {l : Launch} {e : Env} {s : State} {m : MethodId} {args : Array Value} {below : List Frame} {meth : Method} {c : Code} {G : GT} {kd : Nat → Nat × Nat} {ad : Nat → Nat} (C : Cx p s m args meth c cX2_walk 15 none RX2 G kd ad) {k0 : Nat} {k1 : Nat} (hk0 : kPlaces kd k0) (hk1 : kPart kd k1) {MO : Mem} {vo : Unit} {ih13 : Int32 → Int32 → Int32 → Int32 → Int32 → Int32 → Int32 → Int32 → Mem → Option (Mem × Unit)} (hih13 : ∀ (x3 : Int32) (x5 : Int32) (x6 : Int32) (x7 : Int32) (x8 : Int32) (x9 : Int32) (x10 : Int32) (x11 : Int32) (M : Mem), ih13 x3 x5 x6 x7 x8 x9 x10 x11 M = some (MO, vo) → At p l e (rmO 0 0 0) s m args below meth c 0 0 (MQ below (Qg G kd ad s.heap.size MO none) args s 0 0 (AS kd ad s.heap.size)) G kd ad 15 13 [(0, .ref (ad k0)), (1, .ref (ad k1)), (3, .int x3), (5, .int x5), (6, .int x6), (7, .int x7), (8, .int x8), (9, .int x9), (10, .int x10), (11, .int x11)] [] M) : ∀ (x3 : Int32) (x5 : Int32) (x6 : Int32) (x7 : Int32) (x8 : Int32) (x9 : Int32) (x10 : Int32) (x11 : Int32) (x12 : Int32) (y1 : Int32) (y2 : Int32) (y3 : Int32) (M : Mem), mX2_walk_b75 k0 k1 ih13 x3 x5 x6 x7 x8 x9 x10 x11 x12 y1 y2 y3 M = some (MO, vo) → At p l e (rmO 0 0 0) s m args below meth c 0 0 (MQ below (Qg G kd ad s.heap.size MO none) args s 0 0 (AS kd ad s.heap.size)) G kd ad 15 75 [(0, .ref (ad k0)), (1, .ref (ad k1)), (3, .int x3), (5, .int x5), (6, .int x6), (7, .int x7), (8, .int x8), (9, .int x9), (10, .int x10), (11, .int x11), (12, .int x12)] [.int y3, .int y2, .int y1, .ref (ad (k0 + 1))] M := by
  intro x3 x5 x6 x7 x8 x9 x10 x11 x12 y1 y2 y3 M hf H locs ls hI hl
  obtain ⟨hx, hb, hml, hr, hown, hts, hlk, hK, hap, hsx⟩ := id C
  unfold mX2_walk_b75 at hf
  refine lv_iadd hx hb (dc tbX2_walk_0_k 38 rfl) ?_
  obtain ⟨h8, hf⟩ := chk_s hf
  obtain ⟨M10, e9, hf⟩ := bnd_s hf
  refine g_iast hx hb hK hap hI hk0.2.1 (okb_in h8) (dc tbX2_walk_0_k 39 rfl) e9 (fun H locs hI => ?_)
  refine lv_aload_n hx hb (dc tbX2_walk_1_k 0 rfl) rfl (lv_at hl 0 rfl) ?_
  refine gg2_1 hx hb hts hown hK hI hk0.1 q_t1_202 (dc tbX2_walk_1_k 1 rfl) ?_
  refine lv_iload hx hb (dc tbX2_walk_1_k 2 rfl) (lv_at hl 9 rfl) ?_
  refine lv_iload hx hb (dc tbX2_walk_1_k 3 rfl) (lv_at hl 7 rfl) ?_
  refine lv_iload hx hb (dc tbX2_walk_1_k 4 rfl) (lv_at hl 8 rfl) ?_
  refine lv_if_ne (tgt := 95) hx hb (dc tbX2_walk_1_k 5 rfl) rfl (fun c11 => ?_) (fun c11 => ?_)
  · have hf := ite_f c11 hf
    refine lv_iload hx hb (dc tbX2_walk_1_k 8 rfl) (lv_at hl 8 rfl) ?_
    refine lv_iconst (v := 2) hx hb (dc tbX2_walk_1_k 9 rfl) ic_2 ?_
    refine lv_icmp_ne (tgt := 107) hx hb (dc tbX2_walk_1_k 10 rfl) rfl (fun c12 => ?_) (fun c12 => ?_)
    · have hf := ite_f c12 hf
      refine lv_iconst (v := 0) hx hb (dc tbX2_walk_1_k 14 rfl) ic_0 ?_
      exact tX2_walk_b108 C hk0 hk1 hih13 x3 x5 x6 x7 x8 x9 x10 x11 x11 x9 (0 : Int32) M10 hf _ _ _ hI (lv_sub hl [0, 1, 2, 3, 4, 5, 6, 7, 8, 9] rfl)
    · have hf := ite_t c12 hf
      refine lv_iload hx hb (dc tbX2_walk_1_k 11 rfl) (lv_at hl 10 rfl) ?_
      refine lv_ineg hx hb (dc tbX2_walk_1_k 12 rfl) ?_
      refine lv_goto (tgt := 108) hx hb (dc tbX2_walk_1_k 13 rfl) rfl ?_
      exact tX2_walk_b108 C hk0 hk1 hih13 x3 x5 x6 x7 x8 x9 x10 x11 x11 x9 (-x12) M10 hf _ _ _ hI (lv_sub hl [0, 1, 2, 3, 4, 5, 6, 7, 8, 9] rfl)
  · have hf := ite_t c11 hf
    refine lv_iload hx hb (dc tbX2_walk_1_k 6 rfl) (lv_at hl 10 rfl) ?_
    refine lv_goto (tgt := 108) hx hb (dc tbX2_walk_1_k 7 rfl) rfl ?_
    exact tX2_walk_b108 C hk0 hk1 hih13 x3 x5 x6 x7 x8 x9 x10 x11 x11 x9 x12 M10 hf _ _ _ hI (lv_sub hl [0, 1, 2, 3, 4, 5, 6, 7, 8, 9] rfl)
def mX2_walk_b13 (k0 : Nat) (k1 : Nat) (ih13 : Int32 → Int32 → Int32 → Int32 → Int32 → Int32 → Int32 → Int32 → Mem → Option (Mem × Unit)) (x3 : Int32) (x5 : Int32) (x6 : Int32) (x7 : Int32) (x8 : Int32) (x9 : Int32) (x10 : Int32) (x11 : Int32) (M : Mem) : Option (Mem × Unit) := ite2 (x11 < 0) (some (M, ())) (ite2 ((rd M k0 6) ≤ x11) (some (M, ())) (ite2 ((9 : Int32) ≤ x11) (some (M, ())) (chk (okb x11 9) (bnd ((rd M (k1 + 1) (x11).toNatClampNeg)) (fun x12_41 => ite2 (x10 = (1 : Int32)) (mX2_walk_b75 k0 k1 ih13 x3 x5 x6 x7 x8 x9 x10 x11 x12_41 x11 x8 x12_41 M) (ite2 (x10 = (3 : Int32)) (mX2_walk_b75 k0 k1 ih13 x3 x5 x6 x7 x8 x9 x10 x11 x12_41 x11 x8 (-x12_41) M) (mX2_walk_b75 k0 k1 ih13 x3 x5 x6 x7 x8 x9 x10 x11 x12_41 x11 x8 (0 : Int32) M)))))))
set_option maxHeartbeats 4000000 in
set_option maxRecDepth 100000 in
theorem tX2_walk_b13 {p : Program} {l : Launch} {e : Env} {s : State} {m : MethodId} {args : Array Value} {below : List Frame} {meth : Method} {c : Code} {G : GT} {kd : Nat → Nat × Nat} {ad : Nat → Nat} (C : Cx p s m args meth c cX2_walk 15 none RX2 G kd ad) {k0 : Nat} {k1 : Nat} (hk0 : kPlaces kd k0) (hk1 : kPart kd k1) {MO : Mem} {vo : Unit} {ih13 : Int32 → Int32 → Int32 → Int32 → Int32 → Int32 → Int32 → Int32 → Mem → Option (Mem × Unit)} (hih13 : ∀ (x3 : Int32) (x5 : Int32) (x6 : Int32) (x7 : Int32) (x8 : Int32) (x9 : Int32) (x10 : Int32) (x11 : Int32) (M : Mem), ih13 x3 x5 x6 x7 x8 x9 x10 x11 M = some (MO, vo) → At p l e (rmO 0 0 0) s m args below meth c 0 0 (MQ below (Qg G kd ad s.heap.size MO none) args s 0 0 (AS kd ad s.heap.size)) G kd ad 15 13 [(0, .ref (ad k0)), (1, .ref (ad k1)), (3, .int x3), (5, .int x5), (6, .int x6), (7, .int x7), (8, .int x8), (9, .int x9), (10, .int x10), (11, .int x11)] [] M) : ∀ (x3 : Int32) (x5 : Int32) (x6 : Int32) (x7 : Int32) (x8 : Int32) (x9 : Int32) (x10 : Int32) (x11 : Int32) (M : Mem), mX2_walk_b13 k0 k1 ih13 x3 x5 x6 x7 x8 x9 x10 x11 M = some (MO, vo) → At p l e (rmO 0 0 0) s m args below meth c 0 0 (MQ below (Qg G kd ad s.heap.size MO none) args s 0 0 (AS kd ad s.heap.size)) G kd ad 15 13 [(0, .ref (ad k0)), (1, .ref (ad k1)), (3, .int x3), (5, .int x5), (6, .int x6), (7, .int x7), (8, .int x8), (9, .int x9), (10, .int x10), (11, .int x11)] [] M := by
  intro x3 x5 x6 x7 x8 x9 x10 x11 M hf H locs ls hI hl
  obtain ⟨hx, hb, hml, hr, hown, hts, hlk, hK, hap, hsx⟩ := id C
  unfold mX2_walk_b13 at hf
  refine lv_iload hx hb (dc tbX2_walk_0_k 8 rfl) (lv_at hl 9 rfl) ?_
  refine lv_if_lt (tgt := 281) hx hb (dc tbX2_walk_0_k 9 rfl) rfl (fun c1 => ?_) (fun c1 => ?_)
  · have hf := ite_t c1 hf
    cases hf
    exact g_vret hx hb hr hlk hI (dc tbX2_walk_3_k 30 rfl)
  · have hf := ite_f c1 hf
    refine lv_iload hx hb (dc tbX2_walk_0_k 10 rfl) (lv_at hl 9 rfl) ?_
    refine lv_aload_n hx hb (dc tbX2_walk_0_k 11 rfl) rfl (lv_at hl 0 rfl) ?_
    refine gg2_6 hx hb hts hown hK hI hk0.1 q_t1_208 (dc tbX2_walk_0_k 12 rfl) ?_
    refine lv_icmp_ge (tgt := 281) hx hb (dc tbX2_walk_0_k 13 rfl) rfl (fun c2 => ?_) (fun c2 => ?_)
    · have hf := ite_t c2 hf
      cases hf
      exact g_vret hx hb hr hlk hI (dc tbX2_walk_3_k 30 rfl)
    · have hf := ite_f c2 hf
      refine lv_iload hx hb (dc tbX2_walk_0_k 14 rfl) (lv_at hl 9 rfl) ?_
      refine lv_bipush (v := 9) hx hb (dc tbX2_walk_0_k 15 rfl) bp_9 ?_
      refine lv_icmp_ge (tgt := 281) hx hb (dc tbX2_walk_0_k 16 rfl) rfl (fun c3 => ?_) (fun c3 => ?_)
      · have hf := ite_t c3 hf
        cases hf
        exact g_vret hx hb hr hlk hI (dc tbX2_walk_3_k 30 rfl)
      · have hf := ite_f c3 hf
        refine lv_aload_n hx hb (dc tbX2_walk_0_k 17 rfl) rfl (lv_at hl 1 rfl) ?_
        refine gg1_1 hx hb hts hown hK hI hk1.1 q_t1_106 (dc tbX2_walk_0_k 18 rfl) ?_
        refine lv_iload hx hb (dc tbX2_walk_0_k 19 rfl) (lv_at hl 9 rfl) ?_
        obtain ⟨h4, hf⟩ := chk_s hf
        refine g_iald hx hb hK hI hk1.2.1 (okb_in h4) (dc tbX2_walk_0_k 20 rfl) ?_
        obtain ⟨x12_41, e5, hf⟩ := bnd_s hf
        refine lv_ei e5 ?_
        refine lv_istore (lv' := [(12, .int x12_41), (0, .ref (ad k0)), (1, .ref (ad k1)), (3, .int x3), (5, .int x5), (6, .int x6), (7, .int x7), (8, .int x8), (9, .int x9), (10, .int x10), (11, .int x11)]) hx hb (dc tbX2_walk_0_k 21 rfl) hl (by decide) rfl (fun ls hl => ?_)
        refine lv_aload_n hx hb (dc tbX2_walk_0_k 22 rfl) rfl (lv_at hl 1 rfl) ?_
        refine gg2_0 hx hb hts hown hK hI hk0.1 q_t1_200 (dc tbX2_walk_0_k 23 rfl) ?_
        refine lv_iload hx hb (dc tbX2_walk_0_k 24 rfl) (lv_at hl 10 rfl) ?_
        refine lv_iload hx hb (dc tbX2_walk_0_k 25 rfl) (lv_at hl 7 rfl) ?_
        refine lv_iload hx hb (dc tbX2_walk_0_k 26 rfl) (lv_at hl 9 rfl) ?_
        refine lv_iconst (v := 1) hx hb (dc tbX2_walk_0_k 27 rfl) ic_1 ?_
        refine lv_icmp_ne (tgt := 62) hx hb (dc tbX2_walk_0_k 28 rfl) rfl (fun c6 => ?_) (fun c6 => ?_)
        · have hf := ite_f c6 hf
          refine lv_iload hx hb (dc tbX2_walk_0_k 31 rfl) (lv_at hl 9 rfl) ?_
          refine lv_iconst (v := 3) hx hb (dc tbX2_walk_0_k 32 rfl) ic_3 ?_
          refine lv_icmp_ne (tgt := 74) hx hb (dc tbX2_walk_0_k 33 rfl) rfl (fun c7 => ?_) (fun c7 => ?_)
          · have hf := ite_f c7 hf
            refine lv_iconst (v := 0) hx hb (dc tbX2_walk_0_k 37 rfl) ic_0 ?_
            exact tX2_walk_b75 C hk0 hk1 hih13 x3 x5 x6 x7 x8 x9 x10 x11 x12_41 x11 x8 (0 : Int32) M hf _ _ _ hI (lv_sub hl [1, 2, 3, 4, 5, 6, 7, 8, 9, 10, 0] rfl)
          · have hf := ite_t c7 hf
            refine lv_iload hx hb (dc tbX2_walk_0_k 34 rfl) (lv_at hl 0 rfl) ?_
            refine lv_ineg hx hb (dc tbX2_walk_0_k 35 rfl) ?_
            refine lv_goto (tgt := 75) hx hb (dc tbX2_walk_0_k 36 rfl) rfl ?_
            exact tX2_walk_b75 C hk0 hk1 hih13 x3 x5 x6 x7 x8 x9 x10 x11 x12_41 x11 x8 (-x12_41) M hf _ _ _ hI (lv_sub hl [1, 2, 3, 4, 5, 6, 7, 8, 9, 10, 0] rfl)
        · have hf := ite_t c6 hf
          refine lv_iload hx hb (dc tbX2_walk_0_k 29 rfl) (lv_at hl 0 rfl) ?_
          refine lv_goto (tgt := 75) hx hb (dc tbX2_walk_0_k 30 rfl) rfl ?_
          exact tX2_walk_b75 C hk0 hk1 hih13 x3 x5 x6 x7 x8 x9 x10 x11 x12_41 x11 x8 x12_41 M hf _ _ _ hI (lv_sub hl [1, 2, 3, 4, 5, 6, 7, 8, 9, 10, 0] rfl)
def mX2_walk_l13 (k0 : Nat) (k1 : Nat) : Nat → Int32 → Int32 → Int32 → Int32 → Int32 → Int32 → Int32 → Int32 → Mem → Option (Mem × Unit)
  | 0 => fun _ _ _ _ _ _ _ _ _ => none
  | n + 1 => mX2_walk_b13 k0 k1 (mX2_walk_l13 k0 k1 n)
theorem tX2_walk_l13 {p : Program} {l : Launch} {e : Env} {s : State} {m : MethodId} {args : Array Value} {below : List Frame} {meth : Method} {c : Code} {G : GT} {kd : Nat → Nat × Nat} {ad : Nat → Nat} (C : Cx p s m args meth c cX2_walk 15 none RX2 G kd ad) {k0 : Nat} {k1 : Nat} (hk0 : kPlaces kd k0) (hk1 : kPart kd k1) {MO : Mem} {vo : Unit}   : ∀ (fuel : Nat) (x3 : Int32) (x5 : Int32) (x6 : Int32) (x7 : Int32) (x8 : Int32) (x9 : Int32) (x10 : Int32) (x11 : Int32) (M : Mem), mX2_walk_l13 k0 k1 fuel x3 x5 x6 x7 x8 x9 x10 x11 M = some (MO, vo) → At p l e (rmO 0 0 0) s m args below meth c 0 0 (MQ below (Qg G kd ad s.heap.size MO none) args s 0 0 (AS kd ad s.heap.size)) G kd ad 15 13 [(0, .ref (ad k0)), (1, .ref (ad k1)), (3, .int x3), (5, .int x5), (6, .int x6), (7, .int x7), (8, .int x8), (9, .int x9), (10, .int x10), (11, .int x11)] [] M := by
  intro fuel
  induction fuel with
  | zero => intro x3 x5 x6 x7 x8 x9 x10 x11 M hf; cases hf
  | succ n IH => exact tX2_walk_b13 C hk0 hk1 IH
def mX2_walk (k0 : Nat) (k1 : Nat) (x2 : Int32) (x3 : Int32) (x4 : Int32) (x5 : Int32) (x6 : Int32) (x7 : Int32) (M : Mem) : Option (Mem × Unit) := mX2_walk_l13 k0 k1 5000 x3 x5 x6 x7 (0 : Int32) (0 : Int32) x4 x2 M
set_option maxHeartbeats 4000000 in
set_option maxRecDepth 100000 in
theorem tX2_walk (l : Launch) {G : GT} {kd : Nat → Nat × Nat} {ad : Nat → Nat} {k0 : Nat} {k1 : Nat} (hk0 : kPlaces kd k0) (hk1 : kPart kd k1) {x2 : Int32} {x3 : Int32} {x4 : Int32} {x5 : Int32} {x6 : Int32} {x7 : Int32} {M : Mem} {MO : Mem} {vo : Unit} (hf : mX2_walk k0 k1 x2 x3 x4 x5 x6 x7 M = some (MO, vo)) (n : Nat) : Met l yX2_walk (Cond.code yX2_walk cX2_walk 15 none :: WA) (rmO 0 0 0) (Pg G kd ad n [.ref (ad k0), .ref (ad k1), .int x2, .int x3, .int x4, .int x5, .int x6, .int x7] M) (Qg G kd ad n MO none) 0 0 (AS kd ad n) := by
  refine g_body (own := RX2) (by decide) rfl ?_ (Nat.le_of_ble_eq_true rfl)
  intro p e s m args below meth c C _ H locs ls hI hl
  obtain ⟨hx, hb, hml, hr, hown, hts, hlk, hK, hap, hsx⟩ := id C
  have hl : lv_has ls 15 [(0, .ref (ad k0)), (1, .ref (ad k1)), (2, .int x2), (3, .int x3), (4, .int x4), (5, .int x5), (6, .int x6), (7, .int x7)] := hl
  unfold mX2_walk at hf
  refine lv_iconst (v := 0) hx hb (dc tbX2_walk_0_k 0 rfl) ic_0 ?_
  refine lv_istore (lv' := [(8, .int (0 : Int32)), (0, .ref (ad k0)), (1, .ref (ad k1)), (2, .int x2), (3, .int x3), (4, .int x4), (5, .int x5), (6, .int x6), (7, .int x7)]) hx hb (dc tbX2_walk_0_k 1 rfl) hl (by decide) rfl (fun ls hl => ?_)
  refine lv_iconst (v := 0) hx hb (dc tbX2_walk_0_k 2 rfl) ic_0 ?_
  refine lv_istore (lv' := [(9, .int (0 : Int32)), (8, .int (0 : Int32)), (0, .ref (ad k0)), (1, .ref (ad k1)), (2, .int x2), (3, .int x3), (4, .int x4), (5, .int x5), (6, .int x6), (7, .int x7)]) hx hb (dc tbX2_walk_0_k 3 rfl) hl (by decide) rfl (fun ls hl => ?_)
  refine lv_iload hx hb (dc tbX2_walk_0_k 4 rfl) (lv_at hl 6 rfl) ?_
  refine lv_istore (lv' := [(10, .int x4), (9, .int (0 : Int32)), (8, .int (0 : Int32)), (0, .ref (ad k0)), (1, .ref (ad k1)), (2, .int x2), (3, .int x3), (4, .int x4), (5, .int x5), (6, .int x6), (7, .int x7)]) hx hb (dc tbX2_walk_0_k 5 rfl) hl (by decide) rfl (fun ls hl => ?_)
  refine lv_iload_n hx hb (dc tbX2_walk_0_k 6 rfl) rfl (lv_at hl 5 rfl) ?_
  refine lv_istore (lv' := [(11, .int x2), (10, .int x4), (9, .int (0 : Int32)), (8, .int (0 : Int32)), (0, .ref (ad k0)), (1, .ref (ad k1)), (2, .int x2), (3, .int x3), (4, .int x4), (5, .int x5), (6, .int x6), (7, .int x7)]) hx hb (dc tbX2_walk_0_k 7 rfl) hl (by decide) rfl (fun ls hl => ?_)
  exact tX2_walk_l13 C hk0 hk1 5000 x3 x5 x6 x7 (0 : Int32) (0 : Int32) x4 x2 M hf _ _ _ hI (lv_sub hl [4, 5, 7, 9, 10, 11, 3, 2, 1, 0] rfl)
theorem cv_X2_walk : cvF RX2 yX2_walk cX2_walk 15 none 7 := ⟨q_t2_197, q_s1_3, q_t1_5, q_t2_198, by decide +kernel⟩
def mX2_layFinished (k0 : Nat) (k1 : Nat) (M : Mem) : Option (Mem × Unit) := bnd (wr M k0 6 (rd M k1 0)) (fun M1 => cap (mX1_allBends k1 M1) (fun r4 => cal (mX2_walk k0 k1 (0 : Int32) (1 : Int32) (1 : Int32) (3 : Int32) r4 (rd M1 k1 2) M1) (fun M8 _ => some (M8, ()))))
set_option maxHeartbeats 4000000 in
set_option maxRecDepth 100000 in
theorem tX2_layFinished (l : Launch) {G : GT} {kd : Nat → Nat × Nat} {ad : Nat → Nat} {k0 : Nat} {k1 : Nat} (hk0 : kPlaces kd k0) (hk1 : kPart kd k1) {M : Mem} {MO : Mem} {vo : Unit} (hf : mX2_layFinished k0 k1 M = some (MO, vo)) (n : Nat) : Met l yX2_layFinished (Cond.code yX2_layFinished cX2_layFinished 2 none :: WA) (rmO 2 0 0) (Pg G kd ad n [.ref (ad k0), .ref (ad k1)] M) (Qg G kd ad n MO none) 0 0 (AS kd ad n) := by
  refine g_body (own := RX2) (by decide) rfl ?_ (Nat.le_of_ble_eq_true rfl)
  intro p e s m args below meth c C _ H locs ls hI hl
  obtain ⟨hx, hb, hml, hr, hown, hts, hlk, hK, hap, hsx⟩ := id C
  have hl : lv_has ls 2 [(0, .ref (ad k0)), (1, .ref (ad k1))] := hl
  unfold mX2_layFinished at hf
  refine lv_aload_n hx hb (dc tbX2_layFinished_k 0 rfl) rfl (lv_at hl 0 rfl) ?_
  refine lv_aload_n hx hb (dc tbX2_layFinished_k 1 rfl) rfl (lv_at hl 1 rfl) ?_
  refine gg1_0 hx hb hts hown hK hI hk1.1 q_t1_102 (dc tbX2_layFinished_k 2 rfl) ?_
  obtain ⟨M1, e2, hf⟩ := bnd_s hf
  refine gp2_6 hx hb hts hown hK hap hI hk0.1 q_t1_208 (dc tbX2_layFinished_k 3 rfl) e2 (fun H locs hI => ?_)
  refine lv_aload_n hx hb (dc tbX2_layFinished_k 4 rfl) rfl (lv_at hl 0 rfl) ?_
  refine lv_aload_n hx hb (dc tbX2_layFinished_k 5 rfl) rfl (lv_at hl 1 rfl) ?_
  refine lv_iconst (v := 0) hx hb (dc tbX2_layFinished_k 6 rfl) ic_0 ?_
  refine lv_iconst (v := 1) hx hb (dc tbX2_layFinished_k 7 rfl) ic_1 ?_
  refine lv_iconst (v := 1) hx hb (dc tbX2_layFinished_k 8 rfl) ic_1 ?_
  refine lv_iconst (v := 3) hx hb (dc tbX2_layFinished_k 9 rfl) ic_3 ?_
  refine lv_aload_n hx hb (dc tbX2_layFinished_k 10 rfl) rfl (lv_at hl 1 rfl) ?_
  obtain ⟨r4, q3, hf⟩ := cap_s hf
  refine g_callVi hx hb hml hown hts hK hap hsx hI (tX1_allBends l hk1 q3 H.size) cv_X1_allBends q_t2_190 rfl rfl ⟨Nat.le_of_ble_eq_true rfl, Nat.le_of_ble_eq_true rfl⟩ hk1.1 (by simp) rfl rfl rfl hl.1 rfl (Nat.le_of_ble_eq_true rfl) (dc tbX2_layFinished_k 11 rfl) ⟨Nat.le_of_ble_eq_true rfl, Nat.le_of_ble_eq_true rfl⟩ (fun H locs hI => ?_)
  refine lv_aload_n hx hb (dc tbX2_layFinished_k 12 rfl) rfl (lv_at hl 1 rfl) ?_
  refine gg1_2 hx hb hts hown hK hI hk1.1 q_t1_109 (dc tbX2_layFinished_k 13 rfl) ?_
  obtain ⟨M8, r7, q6, hf⟩ := cal_s hf
  refine g_callVv hx hb hml hown hts hK hap hsx hI (tX2_walk l hk0 hk1 q6 H.size) cv_X2_walk q_t2_195 rfl rfl ⟨Nat.le_of_ble_eq_true rfl, Nat.le_of_ble_eq_true rfl⟩ hk0.1 (by simp) rfl rfl rfl hl.1 rfl (Nat.le_of_ble_eq_true rfl) (dc tbX2_layFinished_k 14 rfl) ⟨Nat.le_of_ble_eq_true rfl, Nat.le_of_ble_eq_true rfl⟩ (fun H locs hI => ?_)
  cases hf
  exact g_vret hx hb hr hlk hI (dc tbX2_layFinished_k 15 rfl)
theorem cv_X2_layFinished : cvF RX2 yX2_layFinished cX2_layFinished 2 none 1 := ⟨q_t2_187, q_t2_188, q_t1_5, q_t2_189, by decide +kernel⟩
def mX2_layStep_b27 (k0 : Nat) (k1 : Nat) (x2 : Int32) (x3 : Int32) (x4 : Int32) (y0 : Int32) (M : Mem) : Option (Mem × Unit) := bnd (wr M k0 6 (rd M k1 0)) (fun M6 => ite2 ((x3 &&& (1 : Int32)) = 0) (bnd (wr M6 k0 7 (0 : Int32)) (fun M19 => bnd (wr M19 k0 8 x4) (fun M21 => cal (mX2_walk k0 k1 x4 (-1 : Int32) (3 : Int32) (1 : Int32) x2 y0 M21) (fun M25 _ => cal (mX2_walk k0 k1 (x4 + (1 : Int32)) (1 : Int32) (0 : Int32) (3 : Int32) x2 y0 M25) (fun M28 _ => some (M28, ())))))) (bnd (wr M6 k0 7 (x4 + (1 : Int32))) (fun M9 => bnd (wr M9 k0 8 ((rd M9 k0 6) - (1 : Int32))) (fun M11 => cal (mX2_walk k0 k1 (x4 + (1 : Int32)) (1 : Int32) (3 : Int32) (1 : Int32) x2 y0 M11) (fun M15 _ => cal (mX2_walk k0 k1 x4 (-1 : Int32) (0 : Int32) (3 : Int32) x2 y0 M15) (fun M18 _ => some (M18, ())))))))
set_option maxHeartbeats 4000000 in
set_option maxRecDepth 100000 in
theorem tX2_layStep_b27 {p : Program} {l : Launch} {e : Env} {s : State} {m : MethodId} {args : Array Value} {below : List Frame} {meth : Method} {c : Code} {G : GT} {kd : Nat → Nat × Nat} {ad : Nat → Nat} (C : Cx p s m args meth c cX2_layStep 6 none RX2 G kd ad) {k0 : Nat} {k1 : Nat} (hk0 : kPlaces kd k0) (hk1 : kPart kd k1) {MO : Mem} {vo : Unit}   : ∀ (x2 : Int32) (x3 : Int32) (x4 : Int32) (y0 : Int32) (M : Mem), mX2_layStep_b27 k0 k1 x2 x3 x4 y0 M = some (MO, vo) → At p l e (rmO 1 0 0) s m args below meth c 0 0 (MQ below (Qg G kd ad s.heap.size MO none) args s 0 0 (AS kd ad s.heap.size)) G kd ad 6 27 [(0, .ref (ad k0)), (1, .ref (ad k1)), (2, .int x2), (3, .int x3), (4, .int x4)] [.int y0] M := by
  intro x2 x3 x4 y0 M hf H locs ls hI hl
  obtain ⟨hx, hb, hml, hr, hown, hts, hlk, hK, hap, hsx⟩ := id C
  unfold mX2_layStep_b27 at hf
  refine lv_istore (lv' := [(5, .int y0), (0, .ref (ad k0)), (1, .ref (ad k1)), (2, .int x2), (3, .int x3), (4, .int x4)]) hx hb (dc tbX2_layStep_0_k 15 rfl) hl (by decide) rfl (fun ls hl => ?_)
  refine lv_aload_n hx hb (dc tbX2_layStep_0_k 16 rfl) rfl (lv_at hl 1 rfl) ?_
  refine lv_aload_n hx hb (dc tbX2_layStep_0_k 17 rfl) rfl (lv_at hl 2 rfl) ?_
  refine gg1_0 hx hb hts hown hK hI hk1.1 q_t1_102 (dc tbX2_layStep_0_k 18 rfl) ?_
  obtain ⟨M6, e7, hf⟩ := bnd_s hf
  refine gp2_6 hx hb hts hown hK hap hI hk0.1 q_t1_208 (dc tbX2_layStep_0_k 19 rfl) e7 (fun H locs hI => ?_)
  refine lv_iload_n hx hb (dc tbX2_layStep_0_k 20 rfl) rfl (lv_at hl 4 rfl) ?_
  refine lv_iconst (v := 1) hx hb (dc tbX2_layStep_0_k 21 rfl) ic_1 ?_
  refine lv_iand hx hb (dc tbX2_layStep_0_k 22 rfl) ?_
  refine lv_if_ne (tgt := 85) hx hb (dc tbX2_layStep_0_k 23 rfl) rfl (fun c8 => ?_) (fun c8 => ?_)
  · have hf := ite_f c8 hf
    refine lv_aload_n hx hb (dc tbX2_layStep_1_k 11 rfl) rfl (lv_at hl 1 rfl) ?_
    refine lv_iload hx hb (dc tbX2_layStep_1_k 12 rfl) (lv_at hl 5 rfl) ?_
    refine lv_iconst (v := 1) hx hb (dc tbX2_layStep_1_k 13 rfl) ic_1 ?_
    refine lv_iadd hx hb (dc tbX2_layStep_1_k 14 rfl) ?_
    obtain ⟨M9, e10, hf⟩ := bnd_s hf
    refine gp2_7 hx hb hts hown hK hap hI hk0.1 q_t1_209 (dc tbX2_layStep_1_k 15 rfl) e10 (fun H locs hI => ?_)
    refine lv_aload_n hx hb (dc tbX2_layStep_1_k 16 rfl) rfl (lv_at hl 1 rfl) ?_
    refine lv_aload_n hx hb (dc tbX2_layStep_1_k 17 rfl) rfl (lv_at hl 1 rfl) ?_
    refine gg2_6 hx hb hts hown hK hI hk0.1 q_t1_208 (dc tbX2_layStep_1_k 18 rfl) ?_
    refine lv_iconst (v := 1) hx hb (dc tbX2_layStep_1_k 19 rfl) ic_1 ?_
    refine lv_isub hx hb (dc tbX2_layStep_1_k 20 rfl) ?_
    obtain ⟨M11, e12, hf⟩ := bnd_s hf
    refine gp2_8 hx hb hts hown hK hap hI hk0.1 q_t1_210 (dc tbX2_layStep_1_k 21 rfl) e12 (fun H locs hI => ?_)
    refine lv_aload_n hx hb (dc tbX2_layStep_1_k 22 rfl) rfl (lv_at hl 1 rfl) ?_
    refine lv_aload_n hx hb (dc tbX2_layStep_1_k 23 rfl) rfl (lv_at hl 2 rfl) ?_
    refine lv_iload hx hb (dc tbX2_layStep_1_k 24 rfl) (lv_at hl 5 rfl) ?_
    refine lv_iconst (v := 1) hx hb (dc tbX2_layStep_1_k 25 rfl) ic_1 ?_
    refine lv_iadd hx hb (dc tbX2_layStep_1_k 26 rfl) ?_
    refine lv_iconst (v := 1) hx hb (dc tbX2_layStep_1_k 27 rfl) ic_1 ?_
    refine lv_iconst (v := 3) hx hb (dc tbX2_layStep_1_k 28 rfl) ic_3 ?_
    refine lv_iconst (v := 1) hx hb (dc tbX2_layStep_1_k 29 rfl) ic_1 ?_
    refine lv_iload_n hx hb (dc tbX2_layStep_1_k 30 rfl) rfl (lv_at hl 3 rfl) ?_
    refine lv_iload hx hb (dc tbX2_layStep_1_k 31 rfl) (lv_at hl 0 rfl) ?_
    obtain ⟨M15, r14, q13, hf⟩ := cal_s hf
    refine g_callVv hx hb hml hown hts hK hap hsx hI (tX2_walk l hk0 hk1 q13 H.size) cv_X2_walk q_t2_195 rfl rfl ⟨Nat.le_of_ble_eq_true rfl, Nat.le_of_ble_eq_true rfl⟩ hk0.1 (by simp) rfl rfl rfl hl.1 rfl (Nat.le_of_ble_eq_true rfl) (dc tbX2_layStep_1_k 32 rfl) ⟨Nat.le_of_ble_eq_true rfl, Nat.le_of_ble_eq_true rfl⟩ (fun H locs hI => ?_)
    refine lv_aload_n hx hb (dc tbX2_layStep_1_k 33 rfl) rfl (lv_at hl 1 rfl) ?_
    refine lv_aload_n hx hb (dc tbX2_layStep_1_k 34 rfl) rfl (lv_at hl 2 rfl) ?_
    refine lv_iload hx hb (dc tbX2_layStep_1_k 35 rfl) (lv_at hl 5 rfl) ?_
    refine lv_iconst (v := -1) hx hb (dc tbX2_layStep_1_k 36 rfl) ic_m1 ?_
    refine lv_iconst (v := 0) hx hb (dc tbX2_layStep_1_k 37 rfl) ic_0 ?_
    refine lv_iconst (v := 3) hx hb (dc tbX2_layStep_1_k 38 rfl) ic_3 ?_
    refine lv_iload_n hx hb (dc tbX2_layStep_1_k 39 rfl) rfl (lv_at hl 3 rfl) ?_
    refine lv_iload hx hb (dc tbX2_layStep_2_k 0 rfl) (lv_at hl 0 rfl) ?_
    obtain ⟨M18, r17, q16, hf⟩ := cal_s hf
    refine g_callVv hx hb hml hown hts hK hap hsx hI (tX2_walk l hk0 hk1 q16 H.size) cv_X2_walk q_t2_195 rfl rfl ⟨Nat.le_of_ble_eq_true rfl, Nat.le_of_ble_eq_true rfl⟩ hk0.1 (by simp) rfl rfl rfl hl.1 rfl (Nat.le_of_ble_eq_true rfl) (dc tbX2_layStep_2_k 1 rfl) ⟨Nat.le_of_ble_eq_true rfl, Nat.le_of_ble_eq_true rfl⟩ (fun H locs hI => ?_)
    cases hf
    exact g_vret hx hb hr hlk hI (dc tbX2_layStep_2_k 2 rfl)
  · have hf := ite_t c8 hf
    refine lv_aload_n hx hb (dc tbX2_layStep_0_k 24 rfl) rfl (lv_at hl 1 rfl) ?_
    refine lv_iconst (v := 0) hx hb (dc tbX2_layStep_0_k 25 rfl) ic_0 ?_
    obtain ⟨M19, e20, hf⟩ := bnd_s hf
    refine gp2_7 hx hb hts hown hK hap hI hk0.1 q_t1_209 (dc tbX2_layStep_0_k 26 rfl) e20 (fun H locs hI => ?_)
    refine lv_aload_n hx hb (dc tbX2_layStep_0_k 27 rfl) rfl (lv_at hl 1 rfl) ?_
    refine lv_iload hx hb (dc tbX2_layStep_0_k 28 rfl) (lv_at hl 5 rfl) ?_
    obtain ⟨M21, e22, hf⟩ := bnd_s hf
    refine gp2_8 hx hb hts hown hK hap hI hk0.1 q_t1_210 (dc tbX2_layStep_0_k 29 rfl) e22 (fun H locs hI => ?_)
    refine lv_aload_n hx hb (dc tbX2_layStep_0_k 30 rfl) rfl (lv_at hl 1 rfl) ?_
    refine lv_aload_n hx hb (dc tbX2_layStep_0_k 31 rfl) rfl (lv_at hl 2 rfl) ?_
    refine lv_iload hx hb (dc tbX2_layStep_0_k 32 rfl) (lv_at hl 5 rfl) ?_
    refine lv_iconst (v := -1) hx hb (dc tbX2_layStep_0_k 33 rfl) ic_m1 ?_
    refine lv_iconst (v := 3) hx hb (dc tbX2_layStep_0_k 34 rfl) ic_3 ?_
    refine lv_iconst (v := 1) hx hb (dc tbX2_layStep_0_k 35 rfl) ic_1 ?_
    refine lv_iload_n hx hb (dc tbX2_layStep_0_k 36 rfl) rfl (lv_at hl 3 rfl) ?_
    refine lv_iload hx hb (dc tbX2_layStep_0_k 37 rfl) (lv_at hl 0 rfl) ?_
    obtain ⟨M25, r24, q23, hf⟩ := cal_s hf
    refine g_callVv hx hb hml hown hts hK hap hsx hI (tX2_walk l hk0 hk1 q23 H.size) cv_X2_walk q_t2_195 rfl rfl ⟨Nat.le_of_ble_eq_true rfl, Nat.le_of_ble_eq_true rfl⟩ hk0.1 (by simp) rfl rfl rfl hl.1 rfl (Nat.le_of_ble_eq_true rfl) (dc tbX2_layStep_0_k 38 rfl) ⟨Nat.le_of_ble_eq_true rfl, Nat.le_of_ble_eq_true rfl⟩ (fun H locs hI => ?_)
    refine lv_aload_n hx hb (dc tbX2_layStep_0_k 39 rfl) rfl (lv_at hl 1 rfl) ?_
    refine lv_aload_n hx hb (dc tbX2_layStep_1_k 0 rfl) rfl (lv_at hl 2 rfl) ?_
    refine lv_iload hx hb (dc tbX2_layStep_1_k 1 rfl) (lv_at hl 5 rfl) ?_
    refine lv_iconst (v := 1) hx hb (dc tbX2_layStep_1_k 2 rfl) ic_1 ?_
    refine lv_iadd hx hb (dc tbX2_layStep_1_k 3 rfl) ?_
    refine lv_iconst (v := 1) hx hb (dc tbX2_layStep_1_k 4 rfl) ic_1 ?_
    refine lv_iconst (v := 0) hx hb (dc tbX2_layStep_1_k 5 rfl) ic_0 ?_
    refine lv_iconst (v := 3) hx hb (dc tbX2_layStep_1_k 6 rfl) ic_3 ?_
    refine lv_iload_n hx hb (dc tbX2_layStep_1_k 7 rfl) rfl (lv_at hl 3 rfl) ?_
    refine lv_iload hx hb (dc tbX2_layStep_1_k 8 rfl) (lv_at hl 0 rfl) ?_
    obtain ⟨M28, r27, q26, hf⟩ := cal_s hf
    refine g_callVv hx hb hml hown hts hK hap hsx hI (tX2_walk l hk0 hk1 q26 H.size) cv_X2_walk q_t2_195 rfl rfl ⟨Nat.le_of_ble_eq_true rfl, Nat.le_of_ble_eq_true rfl⟩ hk0.1 (by simp) rfl rfl rfl hl.1 rfl (Nat.le_of_ble_eq_true rfl) (dc tbX2_layStep_1_k 9 rfl) ⟨Nat.le_of_ble_eq_true rfl, Nat.le_of_ble_eq_true rfl⟩ (fun H locs hI => ?_)
    refine lv_goto (tgt := 131) hx hb (dc tbX2_layStep_1_k 10 rfl) rfl ?_
    cases hf
    exact g_vret hx hb hr hlk hI (dc tbX2_layStep_2_k 2 rfl)
def mX2_layStep (k0 : Nat) (k1 : Nat) (x2 : Int32) (x3 : Int32) (M : Mem) : Option (Mem × Unit) := bnd ((x3 >>> ((1 : Int32) &&& 31))) (fun x4_3 => cap (mX1_goesUp k1 x4_3 M) (fun r3 => ite2 (r3 = 0) (mX2_layStep_b27 k0 k1 x2 x3 x4_3 ((rd M k1 2) ^^^ (-1 : Int32)) M) (mX2_layStep_b27 k0 k1 x2 x3 x4_3 (rd M k1 2) M)))
set_option maxHeartbeats 4000000 in
set_option maxRecDepth 100000 in
theorem tX2_layStep (l : Launch) {G : GT} {kd : Nat → Nat × Nat} {ad : Nat → Nat} {k0 : Nat} {k1 : Nat} (hk0 : kPlaces kd k0) (hk1 : kPart kd k1) {x2 : Int32} {x3 : Int32} {M : Mem} {MO : Mem} {vo : Unit} (hf : mX2_layStep k0 k1 x2 x3 M = some (MO, vo)) (n : Nat) : Met l yX2_layStep (Cond.code yX2_layStep cX2_layStep 6 none :: WA) (rmO 1 0 0) (Pg G kd ad n [.ref (ad k0), .ref (ad k1), .int x2, .int x3] M) (Qg G kd ad n MO none) 0 0 (AS kd ad n) := by
  refine g_body (own := RX2) (by decide) rfl ?_ (Nat.le_of_ble_eq_true rfl)
  intro p e s m args below meth c C _ H locs ls hI hl
  obtain ⟨hx, hb, hml, hr, hown, hts, hlk, hK, hap, hsx⟩ := id C
  have hl : lv_has ls 6 [(0, .ref (ad k0)), (1, .ref (ad k1)), (2, .int x2), (3, .int x3)] := hl
  unfold mX2_layStep at hf
  refine lv_iload_n hx hb (dc tbX2_layStep_0_k 0 rfl) rfl (lv_at hl 3 rfl) ?_
  refine lv_iconst (v := 1) hx hb (dc tbX2_layStep_0_k 1 rfl) ic_1 ?_
  refine lv_ishr hx hb (dc tbX2_layStep_0_k 2 rfl) ?_
  obtain ⟨x4_3, e1, hf⟩ := bnd_s hf
  refine lv_ei e1 ?_
  refine lv_istore (lv' := [(4, .int x4_3), (0, .ref (ad k0)), (1, .ref (ad k1)), (2, .int x2), (3, .int x3)]) hx hb (dc tbX2_layStep_0_k 3 rfl) hl (by decide) rfl (fun ls hl => ?_)
  refine lv_aload_n hx hb (dc tbX2_layStep_0_k 4 rfl) rfl (lv_at hl 2 rfl) ?_
  refine lv_iload hx hb (dc tbX2_layStep_0_k 5 rfl) (lv_at hl 0 rfl) ?_
  obtain ⟨r3, q2, hf⟩ := cap_s hf
  refine g_callVi hx hb hml hown hts hK hap hsx hI (tX1_goesUp l hk1 q2 H.size) cv_X1_goesUp q_t3_33 rfl rfl ⟨Nat.le_of_ble_eq_true rfl, Nat.le_of_ble_eq_true rfl⟩ hk1.1 (by simp) rfl rfl rfl hl.1 rfl (Nat.le_of_ble_eq_true rfl) (dc tbX2_layStep_0_k 6 rfl) ⟨Nat.le_of_ble_eq_true rfl, Nat.le_of_ble_eq_true rfl⟩ (fun H locs hI => ?_)
  refine lv_if_eq (tgt := 21) hx hb (dc tbX2_layStep_0_k 7 rfl) rfl (fun c5 => ?_) (fun c5 => ?_)
  · have hf := ite_t c5 hf
    refine lv_aload_n hx hb (dc tbX2_layStep_0_k 11 rfl) rfl (lv_at hl 2 rfl) ?_
    refine gg1_2 hx hb hts hown hK hI hk1.1 q_t1_109 (dc tbX2_layStep_0_k 12 rfl) ?_
    refine lv_iconst (v := -1) hx hb (dc tbX2_layStep_0_k 13 rfl) ic_m1 ?_
    refine lv_ixor hx hb (dc tbX2_layStep_0_k 14 rfl) ?_
    exact tX2_layStep_b27 C hk0 hk1 x2 x3 x4_3 ((rd M k1 2) ^^^ (-1 : Int32)) M hf _ _ _ hI (lv_sub hl [1, 2, 3, 4, 0] rfl)
  · have hf := ite_f c5 hf
    refine lv_aload_n hx hb (dc tbX2_layStep_0_k 8 rfl) rfl (lv_at hl 2 rfl) ?_
    refine gg1_2 hx hb hts hown hK hI hk1.1 q_t1_109 (dc tbX2_layStep_0_k 9 rfl) ?_
    refine lv_goto (tgt := 27) hx hb (dc tbX2_layStep_0_k 10 rfl) rfl ?_
    exact tX2_layStep_b27 C hk0 hk1 x2 x3 x4_3 (rd M k1 2) M hf _ _ _ hI (lv_sub hl [1, 2, 3, 4, 0] rfl)
theorem cv_X2_layStep : cvF RX2 yX2_layStep cX2_layStep 6 none 3 := ⟨q_t3_30, q_t3_31, q_t1_5, q_t3_32, by decide +kernel⟩
def mX2_isClamped (k0 : Nat) (x1 : Int32) (M : Mem) : Option Int32 := ite2 (x1 < (rd M k0 7)) (some (0 : Int32)) (ite2 ((rd M k0 8) < x1) (some (0 : Int32)) (some (1 : Int32)))
set_option maxHeartbeats 4000000 in
set_option maxRecDepth 100000 in
theorem tX2_isClamped (l : Launch) {G : GT} {kd : Nat → Nat × Nat} {ad : Nat → Nat} {k0 : Nat} (hk0 : kPlaces kd k0) {x1 : Int32} {M : Mem} {vo : Int32} (hf : mX2_isClamped k0 x1 M = some vo) (n : Nat) : Met l yX2_isClamped (Cond.code yX2_isClamped cX2_isClamped 2 (some .boolean) :: WA) (rmO 0 0 0) (Pg G kd ad n [.ref (ad k0), .int x1] M) (Qg G kd ad n M (some (.int vo))) 0 0 (AS kd ad n) := by
  refine g_body (own := RX2) (by decide) rfl ?_ (Nat.le_of_ble_eq_true rfl)
  intro p e s m args below meth c C _ H locs ls hI hl
  obtain ⟨hx, hb, hml, hr, hown, hts, hlk, hK, hap, hsx⟩ := id C
  have hl : lv_has ls 2 [(0, .ref (ad k0)), (1, .int x1)] := hl
  unfold mX2_isClamped at hf
  refine lv_iload_n hx hb (dc tbX2_isClamped_k 0 rfl) rfl (lv_at hl 1 rfl) ?_
  refine lv_aload_n hx hb (dc tbX2_isClamped_k 1 rfl) rfl (lv_at hl 0 rfl) ?_
  refine gg2_7 hx hb hts hown hK hI hk0.1 q_t1_209 (dc tbX2_isClamped_k 2 rfl) ?_
  refine lv_icmp_lt (tgt := 20) hx hb (dc tbX2_isClamped_k 3 rfl) rfl (fun c1 => ?_) (fun c1 => ?_)
  · have hf := ite_t c1 hf
    refine lv_iconst (v := 0) hx hb (dc tbX2_isClamped_k 10 rfl) ic_0 ?_
    cases hf
    exact g_zret hx hb hr hlk hI rfl (dc tbX2_isClamped_k 11 rfl)
  · have hf := ite_f c1 hf
    refine lv_iload_n hx hb (dc tbX2_isClamped_k 4 rfl) rfl (lv_at hl 1 rfl) ?_
    refine lv_aload_n hx hb (dc tbX2_isClamped_k 5 rfl) rfl (lv_at hl 0 rfl) ?_
    refine gg2_8 hx hb hts hown hK hI hk0.1 q_t1_210 (dc tbX2_isClamped_k 6 rfl) ?_
    refine lv_icmp_gt (tgt := 20) hx hb (dc tbX2_isClamped_k 7 rfl) rfl (fun c2 => ?_) (fun c2 => ?_)
    · have hf := ite_t c2 hf
      refine lv_iconst (v := 0) hx hb (dc tbX2_isClamped_k 10 rfl) ic_0 ?_
      cases hf
      exact g_zret hx hb hr hlk hI rfl (dc tbX2_isClamped_k 11 rfl)
    · have hf := ite_f c2 hf
      refine lv_iconst (v := 1) hx hb (dc tbX2_isClamped_k 8 rfl) ic_1 ?_
      refine lv_goto (tgt := 21) hx hb (dc tbX2_isClamped_k 9 rfl) rfl ?_
      cases hf
      exact g_zret hx hb hr hlk hI rfl (dc tbX2_isClamped_k 11 rfl)
theorem cv_X2_isClamped : cvF RX2 yX2_isClamped cX2_isClamped 2 (some .boolean) 1 := ⟨q_t3_40, q_s1_5, q_t1_5, q_t3_41, by decide +kernel⟩
def mX2_reachToBack_b38 (k0 : Nat) (M : Mem) (ih4 : Int32 → Int32 → Option Int32) (x1 : Int32) (x2 : Int32) : Option Int32 := bnd (x2 + (1 : Int32)) (fun x2_38 => ih4 x1 x2_38)
set_option maxHeartbeats 4000000 in
set_option maxRecDepth 100000 in
theorem tX2_reachToBack_b38 {p : Program} {l : Launch} {e : Env} {s : State} {m : MethodId} {args : Array Value} {below : List Frame} {meth : Method} {c : Code} {G : GT} {kd : Nat → Nat × Nat} {ad : Nat → Nat} (C : Cx p s m args meth c cX2_reachToBack 3 (some .int) RX2 G kd ad) {k0 : Nat} (hk0 : kPlaces kd k0) {M : Mem} {vo : Int32} {ih4 : Int32 → Int32 → Option Int32} (hih4 : ∀ (x1 : Int32) (x2 : Int32), ih4 x1 x2 = some vo → At p l e (rmO 1 0 0) s m args below meth c 0 0 (MQ below (Qg G kd ad s.heap.size M (some (.int vo))) args s 0 0 (AS kd ad s.heap.size)) G kd ad 3 4 [(0, .ref (ad k0)), (1, .int x1), (2, .int x2)] [] M) : ∀ (x1 : Int32) (x2 : Int32), mX2_reachToBack_b38 k0 M ih4 x1 x2 = some vo → At p l e (rmO 1 0 0) s m args below meth c 0 0 (MQ below (Qg G kd ad s.heap.size M (some (.int vo))) args s 0 0 (AS kd ad s.heap.size)) G kd ad 3 38 [(0, .ref (ad k0)), (1, .int x1), (2, .int x2)] [] M := by
  intro x1 x2 hf H locs ls hI hl
  obtain ⟨hx, hb, hml, hr, hown, hts, hlk, hK, hap, hsx⟩ := id C
  unfold mX2_reachToBack_b38 at hf
  obtain ⟨x2_38, e7, hf⟩ := bnd_s hf
  refine lv_iinc (v := x2_38) (lv' := [(2, .int x2_38), (0, .ref (ad k0)), (1, .int x1)]) hx hb (dc tbX2_reachToBack_k 23 rfl) hl (k := 2) rfl (ii_e e7 ic_1) (by decide) rfl (fun ls hl => ?_)
  refine lv_goto (tgt := 4) hx hb (dc tbX2_reachToBack_k 24 rfl) rfl ?_
  exact hih4 x1 x2_38 hf _ _ _ hI (lv_sub hl [1, 2, 0] rfl)
def mX2_reachToBack_b4 (k0 : Nat) (M : Mem) (ih4 : Int32 → Int32 → Option Int32) (x1 : Int32) (x2 : Int32) : Option Int32 := ite2 ((rd M k0 6) ≤ x2) (some x1) (ite2 ((9 : Int32) ≤ x2) (some x1) (cap (mX2_isClamped k0 x2 M) (fun r4 => ite2 (r4 = 0) (mX2_reachToBack_b38 k0 M ih4 x1 x2) (chk (okb x2 9) (bnd ((imax x1 (-(rd M (k0 + 1) (x2).toNatClampNeg)))) (fun x1_37 => mX2_reachToBack_b38 k0 M ih4 x1_37 x2))))))
set_option maxHeartbeats 4000000 in
set_option maxRecDepth 100000 in
theorem tX2_reachToBack_b4 {p : Program} {l : Launch} {e : Env} {s : State} {m : MethodId} {args : Array Value} {below : List Frame} {meth : Method} {c : Code} {G : GT} {kd : Nat → Nat × Nat} {ad : Nat → Nat} (C : Cx p s m args meth c cX2_reachToBack 3 (some .int) RX2 G kd ad) {k0 : Nat} (hk0 : kPlaces kd k0) {M : Mem} {vo : Int32} {ih4 : Int32 → Int32 → Option Int32} (hih4 : ∀ (x1 : Int32) (x2 : Int32), ih4 x1 x2 = some vo → At p l e (rmO 1 0 0) s m args below meth c 0 0 (MQ below (Qg G kd ad s.heap.size M (some (.int vo))) args s 0 0 (AS kd ad s.heap.size)) G kd ad 3 4 [(0, .ref (ad k0)), (1, .int x1), (2, .int x2)] [] M) : ∀ (x1 : Int32) (x2 : Int32), mX2_reachToBack_b4 k0 M ih4 x1 x2 = some vo → At p l e (rmO 1 0 0) s m args below meth c 0 0 (MQ below (Qg G kd ad s.heap.size M (some (.int vo))) args s 0 0 (AS kd ad s.heap.size)) G kd ad 3 4 [(0, .ref (ad k0)), (1, .int x1), (2, .int x2)] [] M := by
  intro x1 x2 hf H locs ls hI hl
  obtain ⟨hx, hb, hml, hr, hown, hts, hlk, hK, hap, hsx⟩ := id C
  unfold mX2_reachToBack_b4 at hf
  refine lv_iload_n hx hb (dc tbX2_reachToBack_k 4 rfl) rfl (lv_at hl 2 rfl) ?_
  refine lv_aload_n hx hb (dc tbX2_reachToBack_k 5 rfl) rfl (lv_at hl 0 rfl) ?_
  refine gg2_6 hx hb hts hown hK hI hk0.1 q_t1_208 (dc tbX2_reachToBack_k 6 rfl) ?_
  refine lv_icmp_ge (tgt := 44) hx hb (dc tbX2_reachToBack_k 7 rfl) rfl (fun c1 => ?_) (fun c1 => ?_)
  · have hf := ite_t c1 hf
    refine lv_iload_n hx hb (dc tbX2_reachToBack_k 25 rfl) rfl (lv_at hl 1 rfl) ?_
    cases hf
    exact g_iret hx hb hr hlk hI (dc tbX2_reachToBack_k 26 rfl)
  · have hf := ite_f c1 hf
    refine lv_iload_n hx hb (dc tbX2_reachToBack_k 8 rfl) rfl (lv_at hl 2 rfl) ?_
    refine lv_bipush (v := 9) hx hb (dc tbX2_reachToBack_k 9 rfl) bp_9 ?_
    refine lv_icmp_ge (tgt := 44) hx hb (dc tbX2_reachToBack_k 10 rfl) rfl (fun c2 => ?_) (fun c2 => ?_)
    · have hf := ite_t c2 hf
      refine lv_iload_n hx hb (dc tbX2_reachToBack_k 25 rfl) rfl (lv_at hl 1 rfl) ?_
      cases hf
      exact g_iret hx hb hr hlk hI (dc tbX2_reachToBack_k 26 rfl)
    · have hf := ite_f c2 hf
      refine lv_aload_n hx hb (dc tbX2_reachToBack_k 11 rfl) rfl (lv_at hl 0 rfl) ?_
      refine lv_iload_n hx hb (dc tbX2_reachToBack_k 12 rfl) rfl (lv_at hl 2 rfl) ?_
      obtain ⟨r4, q3, hf⟩ := cap_s hf
      refine g_callVi hx hb hml hown hts hK hap hsx hI (tX2_isClamped l hk0 q3 H.size) cv_X2_isClamped q_t3_38 rfl rfl ⟨Nat.le_of_ble_eq_true rfl, Nat.le_of_ble_eq_true rfl⟩ hk0.1 (by simp) rfl rfl rfl hl.1 rfl (Nat.le_of_ble_eq_true rfl) (dc tbX2_reachToBack_k 13 rfl) ⟨Nat.le_of_ble_eq_true rfl, Nat.le_of_ble_eq_true rfl⟩ (fun H locs hI => ?_)
      refine lv_if_eq (tgt := 38) hx hb (dc tbX2_reachToBack_k 14 rfl) rfl (fun c6 => ?_) (fun c6 => ?_)
      · have hf := ite_t c6 hf
        exact tX2_reachToBack_b38 C hk0 hih4 x1 x2 hf _ _ _ hI (lv_sub hl [0, 1, 2] rfl)
      · have hf := ite_f c6 hf
        refine lv_iload_n hx hb (dc tbX2_reachToBack_k 15 rfl) rfl (lv_at hl 1 rfl) ?_
        refine lv_aload_n hx hb (dc tbX2_reachToBack_k 16 rfl) rfl (lv_at hl 0 rfl) ?_
        refine gg2_0 hx hb hts hown hK hI hk0.1 q_t1_200 (dc tbX2_reachToBack_k 17 rfl) ?_
        refine lv_iload_n hx hb (dc tbX2_reachToBack_k 18 rfl) rfl (lv_at hl 2 rfl) ?_
        obtain ⟨h8, hf⟩ := chk_s hf
        refine g_iald hx hb hK hI hk0.2.1 (okb_in h8) (dc tbX2_reachToBack_k 19 rfl) ?_
        refine lv_ineg hx hb (dc tbX2_reachToBack_k 20 rfl) ?_
        refine va_mmax hx hb (hml.trans hl.1.symm) hown (hts _ q_t2_202) (hts _ q_t2_203) (hts _ q_t1_22) (hts _ q_t2_204) (Nat.le_of_ble_eq_true rfl) (Nat.le_of_ble_eq_true rfl) (Nat.le_of_ble_eq_true rfl) (Nat.le_of_ble_eq_true rfl) (dc tbX2_reachToBack_k 21 rfl) ?_
        refine lv_et (show (if _ then _ else _) = (imax x1 (-(rd M (k0 + 1) (x2).toNatClampNeg))) from rfl) ?_
        obtain ⟨x1_37, e9, hf⟩ := bnd_s hf
        refine lv_ei e9 ?_
        refine lv_istore_n (lv' := [(1, .int x1_37), (0, .ref (ad k0)), (2, .int x2)]) hx hb (dc tbX2_reachToBack_k 22 rfl) rfl hl (by decide) rfl (fun ls hl => ?_)
        exact tX2_reachToBack_b38 C hk0 hih4 x1_37 x2 hf _ _ _ hI (lv_sub hl [1, 0, 2] rfl)
def mX2_reachToBack_l4 (k0 : Nat) (M : Mem) : Nat → Int32 → Int32 → Option Int32
  | 0 => fun _ _ => none
  | n + 1 => mX2_reachToBack_b4 k0 M (mX2_reachToBack_l4 k0 M n)
theorem tX2_reachToBack_l4 {p : Program} {l : Launch} {e : Env} {s : State} {m : MethodId} {args : Array Value} {below : List Frame} {meth : Method} {c : Code} {G : GT} {kd : Nat → Nat × Nat} {ad : Nat → Nat} (C : Cx p s m args meth c cX2_reachToBack 3 (some .int) RX2 G kd ad) {k0 : Nat} (hk0 : kPlaces kd k0) {M : Mem} {vo : Int32}   : ∀ (fuel : Nat) (x1 : Int32) (x2 : Int32), mX2_reachToBack_l4 k0 M fuel x1 x2 = some vo → At p l e (rmO 1 0 0) s m args below meth c 0 0 (MQ below (Qg G kd ad s.heap.size M (some (.int vo))) args s 0 0 (AS kd ad s.heap.size)) G kd ad 3 4 [(0, .ref (ad k0)), (1, .int x1), (2, .int x2)] [] M := by
  intro fuel
  induction fuel with
  | zero => intro x1 x2 hf; cases hf
  | succ n IH => exact tX2_reachToBack_b4 C hk0 IH
def mX2_reachToBack (k0 : Nat) (M : Mem) : Option Int32 := mX2_reachToBack_l4 k0 M 5000 (0 : Int32) (0 : Int32)
set_option maxHeartbeats 4000000 in
set_option maxRecDepth 100000 in
theorem tX2_reachToBack (l : Launch) {G : GT} {kd : Nat → Nat × Nat} {ad : Nat → Nat} {k0 : Nat} (hk0 : kPlaces kd k0) {M : Mem} {vo : Int32} (hf : mX2_reachToBack k0 M = some vo) (n : Nat) : Met l yX2_reachToBack (Cond.code yX2_reachToBack cX2_reachToBack 3 (some .int) :: WA) (rmO 1 0 0) (Pg G kd ad n [.ref (ad k0)] M) (Qg G kd ad n M (some (.int vo))) 0 0 (AS kd ad n) := by
  refine g_body (own := RX2) (by decide) rfl ?_ (Nat.le_of_ble_eq_true rfl)
  intro p e s m args below meth c C _ H locs ls hI hl
  obtain ⟨hx, hb, hml, hr, hown, hts, hlk, hK, hap, hsx⟩ := id C
  have hl : lv_has ls 3 [(0, .ref (ad k0))] := hl
  unfold mX2_reachToBack at hf
  refine lv_iconst (v := 0) hx hb (dc tbX2_reachToBack_k 0 rfl) ic_0 ?_
  refine lv_istore_n (lv' := [(1, .int (0 : Int32)), (0, .ref (ad k0))]) hx hb (dc tbX2_reachToBack_k 1 rfl) rfl hl (by decide) rfl (fun ls hl => ?_)
  refine lv_iconst (v := 0) hx hb (dc tbX2_reachToBack_k 2 rfl) ic_0 ?_
  refine lv_istore_n (lv' := [(2, .int (0 : Int32)), (1, .int (0 : Int32)), (0, .ref (ad k0))]) hx hb (dc tbX2_reachToBack_k 3 rfl) rfl hl (by decide) rfl (fun ls hl => ?_)
  exact tX2_reachToBack_l4 C hk0 5000 (0 : Int32) (0 : Int32) hf _ _ _ hI (lv_sub hl [2, 1, 0] rfl)
theorem cv_X2_reachToBack : cvF RX2 yX2_reachToBack cX2_reachToBack 3 (some .int) 0 := ⟨q_t3_35, q_t3_36, q_t1_5, q_t3_37, by decide +kernel⟩
def mX2_topOfFreeSide_b37 (k0 : Nat) (M : Mem) (ih4 : Int32 → Int32 → Option Int32) (x1 : Int32) (x2 : Int32) : Option Int32 := bnd (x2 + (1 : Int32)) (fun x2_37 => ih4 x1 x2_37)
set_option maxHeartbeats 4000000 in
set_option maxRecDepth 100000 in
theorem tX2_topOfFreeSide_b37 {p : Program} {l : Launch} {e : Env} {s : State} {m : MethodId} {args : Array Value} {below : List Frame} {meth : Method} {c : Code} {G : GT} {kd : Nat → Nat × Nat} {ad : Nat → Nat} (C : Cx p s m args meth c cX2_topOfFreeSide 3 (some .int) RX2 G kd ad) {k0 : Nat} (hk0 : kPlaces kd k0) {M : Mem} {vo : Int32} {ih4 : Int32 → Int32 → Option Int32} (hih4 : ∀ (x1 : Int32) (x2 : Int32), ih4 x1 x2 = some vo → At p l e (rmO 1 0 0) s m args below meth c 0 0 (MQ below (Qg G kd ad s.heap.size M (some (.int vo))) args s 0 0 (AS kd ad s.heap.size)) G kd ad 3 4 [(0, .ref (ad k0)), (1, .int x1), (2, .int x2)] [] M) : ∀ (x1 : Int32) (x2 : Int32), mX2_topOfFreeSide_b37 k0 M ih4 x1 x2 = some vo → At p l e (rmO 1 0 0) s m args below meth c 0 0 (MQ below (Qg G kd ad s.heap.size M (some (.int vo))) args s 0 0 (AS kd ad s.heap.size)) G kd ad 3 37 [(0, .ref (ad k0)), (1, .int x1), (2, .int x2)] [] M := by
  intro x1 x2 hf H locs ls hI hl
  obtain ⟨hx, hb, hml, hr, hown, hts, hlk, hK, hap, hsx⟩ := id C
  unfold mX2_topOfFreeSide_b37 at hf
  obtain ⟨x2_37, e7, hf⟩ := bnd_s hf
  refine lv_iinc (v := x2_37) (lv' := [(2, .int x2_37), (0, .ref (ad k0)), (1, .int x1)]) hx hb (dc tbX2_topOfFreeSide_k 22 rfl) hl (k := 2) rfl (ii_e e7 ic_1) (by decide) rfl (fun ls hl => ?_)
  refine lv_goto (tgt := 4) hx hb (dc tbX2_topOfFreeSide_k 23 rfl) rfl ?_
  exact hih4 x1 x2_37 hf _ _ _ hI (lv_sub hl [1, 2, 0] rfl)
def mX2_topOfFreeSide_b4 (k0 : Nat) (M : Mem) (ih4 : Int32 → Int32 → Option Int32) (x1 : Int32) (x2 : Int32) : Option Int32 := ite2 ((rd M k0 6) ≤ x2) (some x1) (ite2 ((9 : Int32) ≤ x2) (some x1) (cap (mX2_isClamped k0 x2 M) (fun r4 => ite2 (r4 = 0) (chk (okb x2 9) (bnd ((imax x1 (rd M (k0 + 2) (x2).toNatClampNeg))) (fun x1_36 => mX2_topOfFreeSide_b37 k0 M ih4 x1_36 x2))) (mX2_topOfFreeSide_b37 k0 M ih4 x1 x2))))
set_option maxHeartbeats 4000000 in
set_option maxRecDepth 100000 in
theorem tX2_topOfFreeSide_b4 {p : Program} {l : Launch} {e : Env} {s : State} {m : MethodId} {args : Array Value} {below : List Frame} {meth : Method} {c : Code} {G : GT} {kd : Nat → Nat × Nat} {ad : Nat → Nat} (C : Cx p s m args meth c cX2_topOfFreeSide 3 (some .int) RX2 G kd ad) {k0 : Nat} (hk0 : kPlaces kd k0) {M : Mem} {vo : Int32} {ih4 : Int32 → Int32 → Option Int32} (hih4 : ∀ (x1 : Int32) (x2 : Int32), ih4 x1 x2 = some vo → At p l e (rmO 1 0 0) s m args below meth c 0 0 (MQ below (Qg G kd ad s.heap.size M (some (.int vo))) args s 0 0 (AS kd ad s.heap.size)) G kd ad 3 4 [(0, .ref (ad k0)), (1, .int x1), (2, .int x2)] [] M) : ∀ (x1 : Int32) (x2 : Int32), mX2_topOfFreeSide_b4 k0 M ih4 x1 x2 = some vo → At p l e (rmO 1 0 0) s m args below meth c 0 0 (MQ below (Qg G kd ad s.heap.size M (some (.int vo))) args s 0 0 (AS kd ad s.heap.size)) G kd ad 3 4 [(0, .ref (ad k0)), (1, .int x1), (2, .int x2)] [] M := by
  intro x1 x2 hf H locs ls hI hl
  obtain ⟨hx, hb, hml, hr, hown, hts, hlk, hK, hap, hsx⟩ := id C
  unfold mX2_topOfFreeSide_b4 at hf
  refine lv_iload_n hx hb (dc tbX2_topOfFreeSide_k 4 rfl) rfl (lv_at hl 2 rfl) ?_
  refine lv_aload_n hx hb (dc tbX2_topOfFreeSide_k 5 rfl) rfl (lv_at hl 0 rfl) ?_
  refine gg2_6 hx hb hts hown hK hI hk0.1 q_t1_208 (dc tbX2_topOfFreeSide_k 6 rfl) ?_
  refine lv_icmp_ge (tgt := 43) hx hb (dc tbX2_topOfFreeSide_k 7 rfl) rfl (fun c1 => ?_) (fun c1 => ?_)
  · have hf := ite_t c1 hf
    refine lv_iload_n hx hb (dc tbX2_topOfFreeSide_k 24 rfl) rfl (lv_at hl 1 rfl) ?_
    cases hf
    exact g_iret hx hb hr hlk hI (dc tbX2_topOfFreeSide_k 25 rfl)
  · have hf := ite_f c1 hf
    refine lv_iload_n hx hb (dc tbX2_topOfFreeSide_k 8 rfl) rfl (lv_at hl 2 rfl) ?_
    refine lv_bipush (v := 9) hx hb (dc tbX2_topOfFreeSide_k 9 rfl) bp_9 ?_
    refine lv_icmp_ge (tgt := 43) hx hb (dc tbX2_topOfFreeSide_k 10 rfl) rfl (fun c2 => ?_) (fun c2 => ?_)
    · have hf := ite_t c2 hf
      refine lv_iload_n hx hb (dc tbX2_topOfFreeSide_k 24 rfl) rfl (lv_at hl 1 rfl) ?_
      cases hf
      exact g_iret hx hb hr hlk hI (dc tbX2_topOfFreeSide_k 25 rfl)
    · have hf := ite_f c2 hf
      refine lv_aload_n hx hb (dc tbX2_topOfFreeSide_k 11 rfl) rfl (lv_at hl 0 rfl) ?_
      refine lv_iload_n hx hb (dc tbX2_topOfFreeSide_k 12 rfl) rfl (lv_at hl 2 rfl) ?_
      obtain ⟨r4, q3, hf⟩ := cap_s hf
      refine g_callVi hx hb hml hown hts hK hap hsx hI (tX2_isClamped l hk0 q3 H.size) cv_X2_isClamped q_t3_38 rfl rfl ⟨Nat.le_of_ble_eq_true rfl, Nat.le_of_ble_eq_true rfl⟩ hk0.1 (by simp) rfl rfl rfl hl.1 rfl (Nat.le_of_ble_eq_true rfl) (dc tbX2_topOfFreeSide_k 13 rfl) ⟨Nat.le_of_ble_eq_true rfl, Nat.le_of_ble_eq_true rfl⟩ (fun H locs hI => ?_)
      refine lv_if_ne (tgt := 37) hx hb (dc tbX2_topOfFreeSide_k 14 rfl) rfl (fun c6 => ?_) (fun c6 => ?_)
      · have hf := ite_f c6 hf
        exact tX2_topOfFreeSide_b37 C hk0 hih4 x1 x2 hf _ _ _ hI (lv_sub hl [0, 1, 2] rfl)
      · have hf := ite_t c6 hf
        refine lv_iload_n hx hb (dc tbX2_topOfFreeSide_k 15 rfl) rfl (lv_at hl 1 rfl) ?_
        refine lv_aload_n hx hb (dc tbX2_topOfFreeSide_k 16 rfl) rfl (lv_at hl 0 rfl) ?_
        refine gg2_1 hx hb hts hown hK hI hk0.1 q_t1_202 (dc tbX2_topOfFreeSide_k 17 rfl) ?_
        refine lv_iload_n hx hb (dc tbX2_topOfFreeSide_k 18 rfl) rfl (lv_at hl 2 rfl) ?_
        obtain ⟨h8, hf⟩ := chk_s hf
        refine g_iald hx hb hK hI hk0.2.2.1 (okb_in h8) (dc tbX2_topOfFreeSide_k 19 rfl) ?_
        refine va_mmax hx hb (hml.trans hl.1.symm) hown (hts _ q_t2_202) (hts _ q_t2_203) (hts _ q_t1_22) (hts _ q_t2_204) (Nat.le_of_ble_eq_true rfl) (Nat.le_of_ble_eq_true rfl) (Nat.le_of_ble_eq_true rfl) (Nat.le_of_ble_eq_true rfl) (dc tbX2_topOfFreeSide_k 20 rfl) ?_
        refine lv_et (show (if _ then _ else _) = (imax x1 (rd M (k0 + 2) (x2).toNatClampNeg)) from rfl) ?_
        obtain ⟨x1_36, e9, hf⟩ := bnd_s hf
        refine lv_ei e9 ?_
        refine lv_istore_n (lv' := [(1, .int x1_36), (0, .ref (ad k0)), (2, .int x2)]) hx hb (dc tbX2_topOfFreeSide_k 21 rfl) rfl hl (by decide) rfl (fun ls hl => ?_)
        exact tX2_topOfFreeSide_b37 C hk0 hih4 x1_36 x2 hf _ _ _ hI (lv_sub hl [1, 0, 2] rfl)
def mX2_topOfFreeSide_l4 (k0 : Nat) (M : Mem) : Nat → Int32 → Int32 → Option Int32
  | 0 => fun _ _ => none
  | n + 1 => mX2_topOfFreeSide_b4 k0 M (mX2_topOfFreeSide_l4 k0 M n)
theorem tX2_topOfFreeSide_l4 {p : Program} {l : Launch} {e : Env} {s : State} {m : MethodId} {args : Array Value} {below : List Frame} {meth : Method} {c : Code} {G : GT} {kd : Nat → Nat × Nat} {ad : Nat → Nat} (C : Cx p s m args meth c cX2_topOfFreeSide 3 (some .int) RX2 G kd ad) {k0 : Nat} (hk0 : kPlaces kd k0) {M : Mem} {vo : Int32}   : ∀ (fuel : Nat) (x1 : Int32) (x2 : Int32), mX2_topOfFreeSide_l4 k0 M fuel x1 x2 = some vo → At p l e (rmO 1 0 0) s m args below meth c 0 0 (MQ below (Qg G kd ad s.heap.size M (some (.int vo))) args s 0 0 (AS kd ad s.heap.size)) G kd ad 3 4 [(0, .ref (ad k0)), (1, .int x1), (2, .int x2)] [] M := by
  intro fuel
  induction fuel with
  | zero => intro x1 x2 hf; cases hf
  | succ n IH => exact tX2_topOfFreeSide_b4 C hk0 IH
def mX2_topOfFreeSide (k0 : Nat) (M : Mem) : Option Int32 := mX2_topOfFreeSide_l4 k0 M 5000 (0 : Int32) (0 : Int32)
set_option maxHeartbeats 4000000 in
set_option maxRecDepth 100000 in
theorem tX2_topOfFreeSide (l : Launch) {G : GT} {kd : Nat → Nat × Nat} {ad : Nat → Nat} {k0 : Nat} (hk0 : kPlaces kd k0) {M : Mem} {vo : Int32} (hf : mX2_topOfFreeSide k0 M = some vo) (n : Nat) : Met l yX2_topOfFreeSide (Cond.code yX2_topOfFreeSide cX2_topOfFreeSide 3 (some .int) :: WA) (rmO 1 0 0) (Pg G kd ad n [.ref (ad k0)] M) (Qg G kd ad n M (some (.int vo))) 0 0 (AS kd ad n) := by
  refine g_body (own := RX2) (by decide) rfl ?_ (Nat.le_of_ble_eq_true rfl)
  intro p e s m args below meth c C _ H locs ls hI hl
  obtain ⟨hx, hb, hml, hr, hown, hts, hlk, hK, hap, hsx⟩ := id C
  have hl : lv_has ls 3 [(0, .ref (ad k0))] := hl
  unfold mX2_topOfFreeSide at hf
  refine lv_iconst (v := 0) hx hb (dc tbX2_topOfFreeSide_k 0 rfl) ic_0 ?_
  refine lv_istore_n (lv' := [(1, .int (0 : Int32)), (0, .ref (ad k0))]) hx hb (dc tbX2_topOfFreeSide_k 1 rfl) rfl hl (by decide) rfl (fun ls hl => ?_)
  refine lv_iconst (v := 0) hx hb (dc tbX2_topOfFreeSide_k 2 rfl) ic_0 ?_
  refine lv_istore_n (lv' := [(2, .int (0 : Int32)), (1, .int (0 : Int32)), (0, .ref (ad k0))]) hx hb (dc tbX2_topOfFreeSide_k 3 rfl) rfl hl (by decide) rfl (fun ls hl => ?_)
  exact tX2_topOfFreeSide_l4 C hk0 5000 (0 : Int32) (0 : Int32) hf _ _ _ hI (lv_sub hl [2, 1, 0] rfl)
theorem cv_X2_topOfFreeSide : cvF RX2 yX2_topOfFreeSide cX2_topOfFreeSide 3 (some .int) 0 := ⟨q_t6_134, q_t6_135, q_t1_5, q_t6_136, by decide +kernel⟩
def mX2_extent_b7 (k0 : Nat) (M : Mem) (ih7 : Int32 → Int32 → Int32 → Int32 → Option Int32) (x1 : Int32) (x2 : Int32) (x3 : Int32) (x4 : Int32) : Option Int32 := ite2 (x1 ≤ x4) (some (x3 - x2)) (ite2 ((9 : Int32) ≤ x4) (some (x3 - x2)) (chk (okb x4 9) (bnd ((imin x2 (rd M k0 (x4).toNatClampNeg))) (fun x2_28 => chk (okb x4 9) (bnd ((imax x3 (rd M k0 (x4).toNatClampNeg))) (fun x3_37 => bnd (x4 + (1 : Int32)) (fun x4_38 => ih7 x1 x2_28 x3_37 x4_38)))))))
set_option maxHeartbeats 4000000 in
set_option maxRecDepth 100000 in
theorem tX2_extent_b7 {p : Program} {l : Launch} {e : Env} {s : State} {m : MethodId} {args : Array Value} {below : List Frame} {meth : Method} {c : Code} {G : GT} {kd : Nat → Nat × Nat} {ad : Nat → Nat} (C : Cx p s m args meth c cX2_extent 5 (some .int) RX2 G kd ad) {k0 : Nat} (hk0 : kd k0 = (10, 9)) {M : Mem} {vo : Int32} {ih7 : Int32 → Int32 → Int32 → Int32 → Option Int32} (hih7 : ∀ (x1 : Int32) (x2 : Int32) (x3 : Int32) (x4 : Int32), ih7 x1 x2 x3 x4 = some vo → At p l e (rmO 0 0 0) s m args below meth c 0 0 (MQ below (Qg G kd ad s.heap.size M (some (.int vo))) args s 0 0 (AS kd ad s.heap.size)) G kd ad 5 7 [(0, .ref (ad k0)), (1, .int x1), (2, .int x2), (3, .int x3), (4, .int x4)] [] M) : ∀ (x1 : Int32) (x2 : Int32) (x3 : Int32) (x4 : Int32), mX2_extent_b7 k0 M ih7 x1 x2 x3 x4 = some vo → At p l e (rmO 0 0 0) s m args below meth c 0 0 (MQ below (Qg G kd ad s.heap.size M (some (.int vo))) args s 0 0 (AS kd ad s.heap.size)) G kd ad 5 7 [(0, .ref (ad k0)), (1, .int x1), (2, .int x2), (3, .int x3), (4, .int x4)] [] M := by
  intro x1 x2 x3 x4 hf H locs ls hI hl
  obtain ⟨hx, hb, hml, hr, hown, hts, hlk, hK, hap, hsx⟩ := id C
  unfold mX2_extent_b7 at hf
  refine lv_iload hx hb (dc tbX2_extent_k 6 rfl) (lv_at hl 4 rfl) ?_
  refine lv_iload_n hx hb (dc tbX2_extent_k 7 rfl) rfl (lv_at hl 1 rfl) ?_
  refine lv_icmp_ge (tgt := 44) hx hb (dc tbX2_extent_k 8 rfl) rfl (fun c1 => ?_) (fun c1 => ?_)
  · have hf := ite_t c1 hf
    refine lv_iload_n hx hb (dc tbX2_extent_k 27 rfl) rfl (lv_at hl 3 rfl) ?_
    refine lv_iload_n hx hb (dc tbX2_extent_k 28 rfl) rfl (lv_at hl 2 rfl) ?_
    refine lv_isub hx hb (dc tbX2_extent_k 29 rfl) ?_
    cases hf
    exact g_iret hx hb hr hlk hI (dc tbX2_extent_k 30 rfl)
  · have hf := ite_f c1 hf
    refine lv_iload hx hb (dc tbX2_extent_k 9 rfl) (lv_at hl 4 rfl) ?_
    refine lv_aload_n hx hb (dc tbX2_extent_k 10 rfl) rfl (lv_at hl 0 rfl) ?_
    refine g_alen hx hb hK hI hk0 (v := 9) (by decide) (dc tbX2_extent_k 11 rfl) ?_
    refine lv_icmp_ge (tgt := 44) hx hb (dc tbX2_extent_k 12 rfl) rfl (fun c2 => ?_) (fun c2 => ?_)
    · have hf := ite_t c2 hf
      refine lv_iload_n hx hb (dc tbX2_extent_k 27 rfl) rfl (lv_at hl 3 rfl) ?_
      refine lv_iload_n hx hb (dc tbX2_extent_k 28 rfl) rfl (lv_at hl 2 rfl) ?_
      refine lv_isub hx hb (dc tbX2_extent_k 29 rfl) ?_
      cases hf
      exact g_iret hx hb hr hlk hI (dc tbX2_extent_k 30 rfl)
    · have hf := ite_f c2 hf
      refine lv_iload_n hx hb (dc tbX2_extent_k 13 rfl) rfl (lv_at hl 2 rfl) ?_
      refine lv_aload_n hx hb (dc tbX2_extent_k 14 rfl) rfl (lv_at hl 0 rfl) ?_
      refine lv_iload hx hb (dc tbX2_extent_k 15 rfl) (lv_at hl 4 rfl) ?_
      obtain ⟨h3, hf⟩ := chk_s hf
      refine g_iald hx hb hK hI hk0 (okb_in h3) (dc tbX2_extent_k 16 rfl) ?_
      refine va_mmin hx hb (hml.trans hl.1.symm) hown (hts _ q_t2_199) (hts _ q_t2_200) (hts _ q_t1_22) (hts _ q_t2_201) (Nat.le_of_ble_eq_true rfl) (Nat.le_of_ble_eq_true rfl) (Nat.le_of_ble_eq_true rfl) (Nat.le_of_ble_eq_true rfl) (dc tbX2_extent_k 17 rfl) ?_
      refine lv_et (show (if _ then _ else _) = (imin x2 (rd M k0 (x4).toNatClampNeg)) from rfl) ?_
      obtain ⟨x2_28, e4, hf⟩ := bnd_s hf
      refine lv_ei e4 ?_
      refine lv_istore_n (lv' := [(2, .int x2_28), (0, .ref (ad k0)), (1, .int x1), (3, .int x3), (4, .int x4)]) hx hb (dc tbX2_extent_k 18 rfl) rfl hl (by decide) rfl (fun ls hl => ?_)
      refine lv_iload_n hx hb (dc tbX2_extent_k 19 rfl) rfl (lv_at hl 3 rfl) ?_
      refine lv_aload_n hx hb (dc tbX2_extent_k 20 rfl) rfl (lv_at hl 1 rfl) ?_
      refine lv_iload hx hb (dc tbX2_extent_k 21 rfl) (lv_at hl 4 rfl) ?_
      obtain ⟨h5, hf⟩ := chk_s hf
      refine g_iald hx hb hK hI hk0 (okb_in h5) (dc tbX2_extent_k 22 rfl) ?_
      refine va_mmax hx hb (hml.trans hl.1.symm) hown (hts _ q_t2_202) (hts _ q_t2_203) (hts _ q_t1_22) (hts _ q_t2_204) (Nat.le_of_ble_eq_true rfl) (Nat.le_of_ble_eq_true rfl) (Nat.le_of_ble_eq_true rfl) (Nat.le_of_ble_eq_true rfl) (dc tbX2_extent_k 23 rfl) ?_
      refine lv_et (show (if _ then _ else _) = (imax x3 (rd M k0 (x4).toNatClampNeg)) from rfl) ?_
      obtain ⟨x3_37, e6, hf⟩ := bnd_s hf
      refine lv_ei e6 ?_
      refine lv_istore_n (lv' := [(3, .int x3_37), (2, .int x2_28), (0, .ref (ad k0)), (1, .int x1), (4, .int x4)]) hx hb (dc tbX2_extent_k 24 rfl) rfl hl (by decide) rfl (fun ls hl => ?_)
      obtain ⟨x4_38, e7, hf⟩ := bnd_s hf
      refine lv_iinc (v := x4_38) (lv' := [(4, .int x4_38), (3, .int x3_37), (2, .int x2_28), (0, .ref (ad k0)), (1, .int x1)]) hx hb (dc tbX2_extent_k 25 rfl) hl (k := 4) rfl (ii_e e7 ic_1) (by decide) rfl (fun ls hl => ?_)
      refine lv_goto (tgt := 7) hx hb (dc tbX2_extent_k 26 rfl) rfl ?_
      exact hih7 x1 x2_28 x3_37 x4_38 hf _ _ _ hI (lv_sub hl [3, 4, 2, 1, 0] rfl)
def mX2_extent_l7 (k0 : Nat) (M : Mem) : Nat → Int32 → Int32 → Int32 → Int32 → Option Int32
  | 0 => fun _ _ _ _ => none
  | n + 1 => mX2_extent_b7 k0 M (mX2_extent_l7 k0 M n)
theorem tX2_extent_l7 {p : Program} {l : Launch} {e : Env} {s : State} {m : MethodId} {args : Array Value} {below : List Frame} {meth : Method} {c : Code} {G : GT} {kd : Nat → Nat × Nat} {ad : Nat → Nat} (C : Cx p s m args meth c cX2_extent 5 (some .int) RX2 G kd ad) {k0 : Nat} (hk0 : kd k0 = (10, 9)) {M : Mem} {vo : Int32}   : ∀ (fuel : Nat) (x1 : Int32) (x2 : Int32) (x3 : Int32) (x4 : Int32), mX2_extent_l7 k0 M fuel x1 x2 x3 x4 = some vo → At p l e (rmO 0 0 0) s m args below meth c 0 0 (MQ below (Qg G kd ad s.heap.size M (some (.int vo))) args s 0 0 (AS kd ad s.heap.size)) G kd ad 5 7 [(0, .ref (ad k0)), (1, .int x1), (2, .int x2), (3, .int x3), (4, .int x4)] [] M := by
  intro fuel
  induction fuel with
  | zero => intro x1 x2 x3 x4 hf; cases hf
  | succ n IH => exact tX2_extent_b7 C hk0 IH
def mX2_extent (k0 : Nat) (x1 : Int32) (M : Mem) : Option Int32 := mX2_extent_l7 k0 M 5000 x1 (0 : Int32) (0 : Int32) (0 : Int32)
set_option maxHeartbeats 4000000 in
set_option maxRecDepth 100000 in
theorem tX2_extent (l : Launch) {G : GT} {kd : Nat → Nat × Nat} {ad : Nat → Nat} {k0 : Nat} (hk0 : kd k0 = (10, 9)) {x1 : Int32} {M : Mem} {vo : Int32} (hf : mX2_extent k0 x1 M = some vo) (n : Nat) : Met l yX2_extent (Cond.code yX2_extent cX2_extent 5 (some .int) :: WA) (rmO 0 0 0) (Pg G kd ad n [.ref (ad k0), .int x1] M) (Qg G kd ad n M (some (.int vo))) 0 0 (AS kd ad n) := by
  refine g_body (own := RX2) (by decide) rfl ?_ (Nat.le_of_ble_eq_true rfl)
  intro p e s m args below meth c C _ H locs ls hI hl
  obtain ⟨hx, hb, hml, hr, hown, hts, hlk, hK, hap, hsx⟩ := id C
  have hl : lv_has ls 5 [(0, .ref (ad k0)), (1, .int x1)] := hl
  unfold mX2_extent at hf
  refine lv_iconst (v := 0) hx hb (dc tbX2_extent_k 0 rfl) ic_0 ?_
  refine lv_istore_n (lv' := [(2, .int (0 : Int32)), (0, .ref (ad k0)), (1, .int x1)]) hx hb (dc tbX2_extent_k 1 rfl) rfl hl (by decide) rfl (fun ls hl => ?_)
  refine lv_iconst (v := 0) hx hb (dc tbX2_extent_k 2 rfl) ic_0 ?_
  refine lv_istore_n (lv' := [(3, .int (0 : Int32)), (2, .int (0 : Int32)), (0, .ref (ad k0)), (1, .int x1)]) hx hb (dc tbX2_extent_k 3 rfl) rfl hl (by decide) rfl (fun ls hl => ?_)
  refine lv_iconst (v := 0) hx hb (dc tbX2_extent_k 4 rfl) ic_0 ?_
  refine lv_istore (lv' := [(4, .int (0 : Int32)), (3, .int (0 : Int32)), (2, .int (0 : Int32)), (0, .ref (ad k0)), (1, .int x1)]) hx hb (dc tbX2_extent_k 5 rfl) hl (by decide) rfl (fun ls hl => ?_)
  exact tX2_extent_l7 C hk0 5000 x1 (0 : Int32) (0 : Int32) (0 : Int32) hf _ _ _ hI (lv_sub hl [3, 4, 2, 1, 0] rfl)
theorem cs_X2_extent : csF yX2_extent cX2_extent 5 (some .int) 2 := ⟨q_t2_206, q_t1_5, q_t2_207, by decide +kernel⟩
def mX2_enters (k0 : Nat) (x1 : Int32) (x2 : Int32) (x3 : Int32) (x4 : Int32) (x5 : Int32) (M : Mem) : Option Int32 := ite2 (x3 ≤ x2) (some (0 : Int32)) (ite2 (x4 < x5) (chk (okb x1 9) (ite2 (x3 ≤ (rd M (k0 + 3) (x1).toNatClampNeg)) (some (0 : Int32)) (chk (okb x1 9) (ite2 ((rd M (k0 + 4) (x1).toNatClampNeg) ≤ x2) (some (0 : Int32)) (chk (okb x1 9) (ite2 (x5 ≤ (rd M (k0 + 5) (x1).toNatClampNeg)) (some (0 : Int32)) (chk (okb x1 9) (ite2 ((rd M (k0 + 6) (x1).toNatClampNeg) ≤ x4) (some (0 : Int32)) (some (1 : Int32)))))))))) (some (0 : Int32)))
set_option maxHeartbeats 4000000 in
set_option maxRecDepth 100000 in
theorem tX2_enters (l : Launch) {G : GT} {kd : Nat → Nat × Nat} {ad : Nat → Nat} {k0 : Nat} (hk0 : kPlaces kd k0) {x1 : Int32} {x2 : Int32} {x3 : Int32} {x4 : Int32} {x5 : Int32} {M : Mem} {vo : Int32} (hf : mX2_enters k0 x1 x2 x3 x4 x5 M = some vo) (n : Nat) : Met l yX2_enters (Cond.code yX2_enters cX2_enters 6 (some .boolean) :: WA) (rmO 0 0 0) (Pg G kd ad n [.ref (ad k0), .int x1, .int x2, .int x3, .int x4, .int x5] M) (Qg G kd ad n M (some (.int vo))) 0 0 (AS kd ad n) := by
  refine g_body (own := RX2) (by decide) rfl ?_ (Nat.le_of_ble_eq_true rfl)
  intro p e s m args below meth c C _ H locs ls hI hl
  obtain ⟨hx, hb, hml, hr, hown, hts, hlk, hK, hap, hsx⟩ := id C
  have hl : lv_has ls 6 [(0, .ref (ad k0)), (1, .int x1), (2, .int x2), (3, .int x3), (4, .int x4), (5, .int x5)] := hl
  unfold mX2_enters at hf
  refine lv_iload_n hx hb (dc tbX2_enters_k 0 rfl) rfl (lv_at hl 2 rfl) ?_
  refine lv_iload_n hx hb (dc tbX2_enters_k 1 rfl) rfl (lv_at hl 3 rfl) ?_
  refine lv_icmp_ge (tgt := 12) hx hb (dc tbX2_enters_k 2 rfl) rfl (fun c1 => ?_) (fun c1 => ?_)
  · have hf := ite_t c1 hf
    refine lv_iconst (v := 0) hx hb (dc tbX2_enters_k 6 rfl) ic_0 ?_
    cases hf
    exact g_zret hx hb hr hlk hI rfl (dc tbX2_enters_k 7 rfl)
  · have hf := ite_f c1 hf
    refine lv_iload hx hb (dc tbX2_enters_k 3 rfl) (lv_at hl 4 rfl) ?_
    refine lv_iload hx hb (dc tbX2_enters_k 4 rfl) (lv_at hl 5 rfl) ?_
    refine lv_icmp_lt (tgt := 14) hx hb (dc tbX2_enters_k 5 rfl) rfl (fun c2 => ?_) (fun c2 => ?_)
    · have hf := ite_t c2 hf
      refine lv_aload_n hx hb (dc tbX2_enters_k 8 rfl) rfl (lv_at hl 0 rfl) ?_
      refine gg2_2 hx hb hts hown hK hI hk0.1 q_t1_204 (dc tbX2_enters_k 9 rfl) ?_
      refine lv_iload_n hx hb (dc tbX2_enters_k 10 rfl) rfl (lv_at hl 1 rfl) ?_
      obtain ⟨h3, hf⟩ := chk_s hf
      refine g_iald hx hb hK hI hk0.2.2.2.1 (okb_in h3) (dc tbX2_enters_k 11 rfl) ?_
      refine lv_iload_n hx hb (dc tbX2_enters_k 12 rfl) rfl (lv_at hl 3 rfl) ?_
      refine lv_icmp_ge (tgt := 60) hx hb (dc tbX2_enters_k 13 rfl) rfl (fun c4 => ?_) (fun c4 => ?_)
      · have hf := ite_t c4 hf
        refine lv_iconst (v := 0) hx hb (dc tbX2_enters_k 34 rfl) ic_0 ?_
        cases hf
        exact g_zret hx hb hr hlk hI rfl (dc tbX2_enters_k 35 rfl)
      · have hf := ite_f c4 hf
        refine lv_aload_n hx hb (dc tbX2_enters_k 14 rfl) rfl (lv_at hl 0 rfl) ?_
        refine gg2_3 hx hb hts hown hK hI hk0.1 q_t1_205 (dc tbX2_enters_k 15 rfl) ?_
        refine lv_iload_n hx hb (dc tbX2_enters_k 16 rfl) rfl (lv_at hl 1 rfl) ?_
        obtain ⟨h5, hf⟩ := chk_s hf
        refine g_iald hx hb hK hI hk0.2.2.2.2.1 (okb_in h5) (dc tbX2_enters_k 17 rfl) ?_
        refine lv_iload_n hx hb (dc tbX2_enters_k 18 rfl) rfl (lv_at hl 2 rfl) ?_
        refine lv_icmp_le (tgt := 60) hx hb (dc tbX2_enters_k 19 rfl) rfl (fun c6 => ?_) (fun c6 => ?_)
        · have hf := ite_t c6 hf
          refine lv_iconst (v := 0) hx hb (dc tbX2_enters_k 34 rfl) ic_0 ?_
          cases hf
          exact g_zret hx hb hr hlk hI rfl (dc tbX2_enters_k 35 rfl)
        · have hf := ite_f c6 hf
          refine lv_aload_n hx hb (dc tbX2_enters_k 20 rfl) rfl (lv_at hl 0 rfl) ?_
          refine gg2_4 hx hb hts hown hK hI hk0.1 q_t1_206 (dc tbX2_enters_k 21 rfl) ?_
          refine lv_iload_n hx hb (dc tbX2_enters_k 22 rfl) rfl (lv_at hl 1 rfl) ?_
          obtain ⟨h7, hf⟩ := chk_s hf
          refine g_iald hx hb hK hI hk0.2.2.2.2.2.1 (okb_in h7) (dc tbX2_enters_k 23 rfl) ?_
          refine lv_iload hx hb (dc tbX2_enters_k 24 rfl) (lv_at hl 5 rfl) ?_
          refine lv_icmp_ge (tgt := 60) hx hb (dc tbX2_enters_k 25 rfl) rfl (fun c8 => ?_) (fun c8 => ?_)
          · have hf := ite_t c8 hf
            refine lv_iconst (v := 0) hx hb (dc tbX2_enters_k 34 rfl) ic_0 ?_
            cases hf
            exact g_zret hx hb hr hlk hI rfl (dc tbX2_enters_k 35 rfl)
          · have hf := ite_f c8 hf
            refine lv_aload_n hx hb (dc tbX2_enters_k 26 rfl) rfl (lv_at hl 0 rfl) ?_
            refine gg2_5 hx hb hts hown hK hI hk0.1 q_t1_207 (dc tbX2_enters_k 27 rfl) ?_
            refine lv_iload_n hx hb (dc tbX2_enters_k 28 rfl) rfl (lv_at hl 1 rfl) ?_
            obtain ⟨h9, hf⟩ := chk_s hf
            refine g_iald hx hb hK hI hk0.2.2.2.2.2.2 (okb_in h9) (dc tbX2_enters_k 29 rfl) ?_
            refine lv_iload hx hb (dc tbX2_enters_k 30 rfl) (lv_at hl 4 rfl) ?_
            refine lv_icmp_le (tgt := 60) hx hb (dc tbX2_enters_k 31 rfl) rfl (fun c10 => ?_) (fun c10 => ?_)
            · have hf := ite_t c10 hf
              refine lv_iconst (v := 0) hx hb (dc tbX2_enters_k 34 rfl) ic_0 ?_
              cases hf
              exact g_zret hx hb hr hlk hI rfl (dc tbX2_enters_k 35 rfl)
            · have hf := ite_f c10 hf
              refine lv_iconst (v := 1) hx hb (dc tbX2_enters_k 32 rfl) ic_1 ?_
              refine lv_goto (tgt := 61) hx hb (dc tbX2_enters_k 33 rfl) rfl ?_
              cases hf
              exact g_zret hx hb hr hlk hI rfl (dc tbX2_enters_k 35 rfl)
    · have hf := ite_f c2 hf
      refine lv_iconst (v := 0) hx hb (dc tbX2_enters_k 6 rfl) ic_0 ?_
      cases hf
      exact g_zret hx hb hr hlk hI rfl (dc tbX2_enters_k 7 rfl)
theorem cv_X2_enters : cvF RX2 yX2_enters cX2_enters 6 (some .boolean) 5 := ⟨q_t3_48, q_s1_6, q_t1_5, q_t3_49, by decide +kernel⟩
def mX2_legsHitting_b108 (k0 : Nat) (k1 : Nat) (M : Mem) (ih10 : Int32 → Int32 → Option Int32) (x3 : Int32) (x4 : Int32) : Option Int32 := bnd (x4 + (1 : Int32)) (fun x4_108 => ih10 x3 x4_108)
set_option maxHeartbeats 4000000 in
set_option maxRecDepth 100000 in
theorem tX2_legsHitting_b108 {p : Program} {l : Launch} {e : Env} {s : State} {m : MethodId} {args : Array Value} {below : List Frame} {meth : Method} {c : Code} {G : GT} {kd : Nat → Nat × Nat} {ad : Nat → Nat} (C : Cx p s m args meth c cX2_legsHitting 6 (some .int) RX2 G kd ad) {k0 : Nat} {k1 : Nat} (hk0 : kPlaces kd k0) (hk1 : kPart kd k1) {M : Mem} {vo : Int32} {ih10 : Int32 → Int32 → Option Int32} (hih10 : ∀ (x3 : Int32) (x4 : Int32), ih10 x3 x4 = some vo → At p l e (rmO 1 0 0) s m args below meth c 0 0 (MQ below (Qg G kd ad s.heap.size M (some (.int vo))) args s 0 0 (AS kd ad s.heap.size)) G kd ad 6 10 [(0, .ref (ad k0)), (2, .ref (ad (k1 + 2))), (3, .int x3), (4, .int x4)] [] M) : ∀ (x3 : Int32) (x4 : Int32), mX2_legsHitting_b108 k0 k1 M ih10 x3 x4 = some vo → At p l e (rmO 1 0 0) s m args below meth c 0 0 (MQ below (Qg G kd ad s.heap.size M (some (.int vo))) args s 0 0 (AS kd ad s.heap.size)) G kd ad 6 108 [(0, .ref (ad k0)), (2, .ref (ad (k1 + 2))), (3, .int x3), (4, .int x4)] [] M := by
  intro x3 x4 hf H locs ls hI hl
  obtain ⟨hx, hb, hml, hr, hown, hts, hlk, hK, hap, hsx⟩ := id C
  unfold mX2_legsHitting_b108 at hf
  obtain ⟨x4_108, e10, hf⟩ := bnd_s hf
  refine lv_iinc (v := x4_108) (lv' := [(4, .int x4_108), (0, .ref (ad k0)), (2, .ref (ad (k1 + 2))), (3, .int x3)]) hx hb (dc tbX2_legsHitting_1_k 29 rfl) hl (k := 3) rfl (ii_e e10 ic_1) (by decide) rfl (fun ls hl => ?_)
  refine lv_goto (tgt := 10) hx hb (dc tbX2_legsHitting_1_k 30 rfl) rfl ?_
  exact hih10 x3 x4_108 hf _ _ _ hI (lv_sub hl [1, 2, 3, 0] rfl)
def mX2_legsHitting_b94 (k0 : Nat) (k1 : Nat) (M : Mem) (ih10 : Int32 → Int32 → Option Int32) (x3 : Int32) (x4 : Int32) (y0 : Int32) : Option Int32 := ite2 (y0 = 0) (mX2_legsHitting_b108 k0 k1 M ih10 x3 x4) (bnd ((x3 ||| ((1 : Int32) <<< (x4 &&& 31)))) (fun x3_107 => mX2_legsHitting_b108 k0 k1 M ih10 x3_107 x4))
set_option maxHeartbeats 4000000 in
set_option maxRecDepth 100000 in
theorem tX2_legsHitting_b94 {p : Program} {l : Launch} {e : Env} {s : State} {m : MethodId} {args : Array Value} {below : List Frame} {meth : Method} {c : Code} {G : GT} {kd : Nat → Nat × Nat} {ad : Nat → Nat} (C : Cx p s m args meth c cX2_legsHitting 6 (some .int) RX2 G kd ad) {k0 : Nat} {k1 : Nat} (hk0 : kPlaces kd k0) (hk1 : kPart kd k1) {M : Mem} {vo : Int32} {ih10 : Int32 → Int32 → Option Int32} (hih10 : ∀ (x3 : Int32) (x4 : Int32), ih10 x3 x4 = some vo → At p l e (rmO 1 0 0) s m args below meth c 0 0 (MQ below (Qg G kd ad s.heap.size M (some (.int vo))) args s 0 0 (AS kd ad s.heap.size)) G kd ad 6 10 [(0, .ref (ad k0)), (2, .ref (ad (k1 + 2))), (3, .int x3), (4, .int x4)] [] M) : ∀ (x3 : Int32) (x4 : Int32) (y0 : Int32), mX2_legsHitting_b94 k0 k1 M ih10 x3 x4 y0 = some vo → At p l e (rmO 1 0 0) s m args below meth c 0 0 (MQ below (Qg G kd ad s.heap.size M (some (.int vo))) args s 0 0 (AS kd ad s.heap.size)) G kd ad 6 94 [(0, .ref (ad k0)), (2, .ref (ad (k1 + 2))), (3, .int x3), (4, .int x4)] [.int y0] M := by
  intro x3 x4 y0 hf H locs ls hI hl
  obtain ⟨hx, hb, hml, hr, hown, hts, hlk, hK, hap, hsx⟩ := id C
  unfold mX2_legsHitting_b94 at hf
  refine lv_istore (lv' := [(5, .int y0), (0, .ref (ad k0)), (2, .ref (ad (k1 + 2))), (3, .int x3), (4, .int x4)]) hx hb (dc tbX2_legsHitting_1_k 20 rfl) hl (by decide) rfl (fun ls hl => ?_)
  refine lv_iload hx hb (dc tbX2_legsHitting_1_k 21 rfl) (lv_at hl 0 rfl) ?_
  refine lv_if_eq (tgt := 108) hx hb (dc tbX2_legsHitting_1_k 22 rfl) rfl (fun c9 => ?_) (fun c9 => ?_)
  · have hf := ite_t c9 hf
    exact tX2_legsHitting_b108 C hk0 hk1 hih10 x3 x4 hf _ _ _ hI (lv_sub hl [1, 2, 3, 4] rfl)
  · have hf := ite_f c9 hf
    refine lv_iload_n hx hb (dc tbX2_legsHitting_1_k 23 rfl) rfl (lv_at hl 3 rfl) ?_
    refine lv_iconst (v := 1) hx hb (dc tbX2_legsHitting_1_k 24 rfl) ic_1 ?_
    refine lv_iload hx hb (dc tbX2_legsHitting_1_k 25 rfl) (lv_at hl 4 rfl) ?_
    refine lv_ishl hx hb (dc tbX2_legsHitting_1_k 26 rfl) ?_
    refine lv_ior hx hb (dc tbX2_legsHitting_1_k 27 rfl) ?_
    obtain ⟨x3_107, e11, hf⟩ := bnd_s hf
    refine lv_ei e11 ?_
    refine lv_istore_n (lv' := [(3, .int x3_107), (5, .int y0), (0, .ref (ad k0)), (2, .ref (ad (k1 + 2))), (4, .int x4)]) hx hb (dc tbX2_legsHitting_1_k 28 rfl) rfl hl (by decide) rfl (fun ls hl => ?_)
    exact tX2_legsHitting_b108 C hk0 hk1 hih10 x3_107 x4 hf _ _ _ hI (lv_sub hl [2, 3, 0, 4] rfl)
def mX2_legsHitting_b89 (k0 : Nat) (k1 : Nat) (M : Mem) (ih10 : Int32 → Int32 → Option Int32) (x3 : Int32) (x4 : Int32) : Option Int32 := mX2_legsHitting_b94 k0 k1 M ih10 x3 x4 (1 : Int32)
set_option maxHeartbeats 4000000 in
set_option maxRecDepth 100000 in
theorem tX2_legsHitting_b89 {p : Program} {l : Launch} {e : Env} {s : State} {m : MethodId} {args : Array Value} {below : List Frame} {meth : Method} {c : Code} {G : GT} {kd : Nat → Nat × Nat} {ad : Nat → Nat} (C : Cx p s m args meth c cX2_legsHitting 6 (some .int) RX2 G kd ad) {k0 : Nat} {k1 : Nat} (hk0 : kPlaces kd k0) (hk1 : kPart kd k1) {M : Mem} {vo : Int32} {ih10 : Int32 → Int32 → Option Int32} (hih10 : ∀ (x3 : Int32) (x4 : Int32), ih10 x3 x4 = some vo → At p l e (rmO 1 0 0) s m args below meth c 0 0 (MQ below (Qg G kd ad s.heap.size M (some (.int vo))) args s 0 0 (AS kd ad s.heap.size)) G kd ad 6 10 [(0, .ref (ad k0)), (2, .ref (ad (k1 + 2))), (3, .int x3), (4, .int x4)] [] M) : ∀ (x3 : Int32) (x4 : Int32), mX2_legsHitting_b89 k0 k1 M ih10 x3 x4 = some vo → At p l e (rmO 1 0 0) s m args below meth c 0 0 (MQ below (Qg G kd ad s.heap.size M (some (.int vo))) args s 0 0 (AS kd ad s.heap.size)) G kd ad 6 89 [(0, .ref (ad k0)), (2, .ref (ad (k1 + 2))), (3, .int x3), (4, .int x4)] [] M := by
  intro x3 x4 hf H locs ls hI hl
  obtain ⟨hx, hb, hml, hr, hown, hts, hlk, hK, hap, hsx⟩ := id C
  unfold mX2_legsHitting_b89 at hf
  refine lv_iconst (v := 1) hx hb (dc tbX2_legsHitting_1_k 17 rfl) ic_1 ?_
  refine lv_goto (tgt := 94) hx hb (dc tbX2_legsHitting_1_k 18 rfl) rfl ?_
  exact tX2_legsHitting_b94 C hk0 hk1 hih10 x3 x4 (1 : Int32) hf _ _ _ hI (lv_sub hl [0, 1, 2, 3] rfl)
def mX2_legsHitting_b93 (k0 : Nat) (k1 : Nat) (M : Mem) (ih10 : Int32 → Int32 → Option Int32) (x3 : Int32) (x4 : Int32) : Option Int32 := mX2_legsHitting_b94 k0 k1 M ih10 x3 x4 (0 : Int32)
set_option maxHeartbeats 4000000 in
set_option maxRecDepth 100000 in
theorem tX2_legsHitting_b93 {p : Program} {l : Launch} {e : Env} {s : State} {m : MethodId} {args : Array Value} {below : List Frame} {meth : Method} {c : Code} {G : GT} {kd : Nat → Nat × Nat} {ad : Nat → Nat} (C : Cx p s m args meth c cX2_legsHitting 6 (some .int) RX2 G kd ad) {k0 : Nat} {k1 : Nat} (hk0 : kPlaces kd k0) (hk1 : kPart kd k1) {M : Mem} {vo : Int32} {ih10 : Int32 → Int32 → Option Int32} (hih10 : ∀ (x3 : Int32) (x4 : Int32), ih10 x3 x4 = some vo → At p l e (rmO 1 0 0) s m args below meth c 0 0 (MQ below (Qg G kd ad s.heap.size M (some (.int vo))) args s 0 0 (AS kd ad s.heap.size)) G kd ad 6 10 [(0, .ref (ad k0)), (2, .ref (ad (k1 + 2))), (3, .int x3), (4, .int x4)] [] M) : ∀ (x3 : Int32) (x4 : Int32), mX2_legsHitting_b93 k0 k1 M ih10 x3 x4 = some vo → At p l e (rmO 1 0 0) s m args below meth c 0 0 (MQ below (Qg G kd ad s.heap.size M (some (.int vo))) args s 0 0 (AS kd ad s.heap.size)) G kd ad 6 93 [(0, .ref (ad k0)), (2, .ref (ad (k1 + 2))), (3, .int x3), (4, .int x4)] [] M := by
  intro x3 x4 hf H locs ls hI hl
  obtain ⟨hx, hb, hml, hr, hown, hts, hlk, hK, hap, hsx⟩ := id C
  unfold mX2_legsHitting_b93 at hf
  refine lv_iconst (v := 0) hx hb (dc tbX2_legsHitting_1_k 19 rfl) ic_0 ?_
  exact tX2_legsHitting_b94 C hk0 hk1 hih10 x3 x4 (0 : Int32) hf _ _ _ hI (lv_sub hl [0, 1, 2, 3] rfl)
def mX2_legsHitting_b10 (k0 : Nat) (k1 : Nat) (M : Mem) (ih10 : Int32 → Int32 → Option Int32) (x3 : Int32) (x4 : Int32) : Option Int32 := ite2 ((rd M k0 6) ≤ x4) (some x3) (ite2 ((9 : Int32) ≤ x4) (some x3) (chk (okb (0 : Int32) 10) (chk (okb (1 : Int32) 10) (cap (mX2_enters k0 x4 (-(rd M (k1 + 2) ((0 : Int32)).toNatClampNeg)) (0 : Int32) (0 : Int32) (rd M (k1 + 2) ((1 : Int32)).toNatClampNeg) M) (fun r6 => ite2 (r6 = 0) (chk (okb (2 : Int32) 10) (chk (okb (3 : Int32) 10) (cap (mX2_enters k0 x4 (-(rd M (k1 + 2) ((2 : Int32)).toNatClampNeg)) (0 : Int32) (-(rd M (k1 + 2) ((3 : Int32)).toNatClampNeg)) (0 : Int32) M) (fun r15 => ite2 (r15 = 0) (cap (mX2_isClamped k0 x4 M) (fun r19 => ite2 (r19 = 0) (chk (okb (4 : Int32) 10) (chk (okb (5 : Int32) 10) (cap (mX2_enters k0 x4 (0 : Int32) (rd M (k1 + 2) ((4 : Int32)).toNatClampNeg) (0 : Int32) (rd M (k1 + 2) ((5 : Int32)).toNatClampNeg) M) (fun r25 => ite2 (r25 = 0) (mX2_legsHitting_b93 k0 k1 M ih10 x3 x4) (mX2_legsHitting_b89 k0 k1 M ih10 x3 x4))))) (mX2_legsHitting_b93 k0 k1 M ih10 x3 x4))) (mX2_legsHitting_b89 k0 k1 M ih10 x3 x4))))) (mX2_legsHitting_b89 k0 k1 M ih10 x3 x4))))))
set_option maxHeartbeats 4000000 in
set_option maxRecDepth 100000 in
theorem tX2_legsHitting_b10 {p : Program} {l : Launch} {e : Env} {s : State} {m : MethodId} {args : Array Value} {below : List Frame} {meth : Method} {c : Code} {G : GT} {kd : Nat → Nat × Nat} {ad : Nat → Nat} (C : Cx p s m args meth c cX2_legsHitting 6 (some .int) RX2 G kd ad) {k0 : Nat} {k1 : Nat} (hk0 : kPlaces kd k0) (hk1 : kPart kd k1) {M : Mem} {vo : Int32} {ih10 : Int32 → Int32 → Option Int32} (hih10 : ∀ (x3 : Int32) (x4 : Int32), ih10 x3 x4 = some vo → At p l e (rmO 1 0 0) s m args below meth c 0 0 (MQ below (Qg G kd ad s.heap.size M (some (.int vo))) args s 0 0 (AS kd ad s.heap.size)) G kd ad 6 10 [(0, .ref (ad k0)), (2, .ref (ad (k1 + 2))), (3, .int x3), (4, .int x4)] [] M) : ∀ (x3 : Int32) (x4 : Int32), mX2_legsHitting_b10 k0 k1 M ih10 x3 x4 = some vo → At p l e (rmO 1 0 0) s m args below meth c 0 0 (MQ below (Qg G kd ad s.heap.size M (some (.int vo))) args s 0 0 (AS kd ad s.heap.size)) G kd ad 6 10 [(0, .ref (ad k0)), (2, .ref (ad (k1 + 2))), (3, .int x3), (4, .int x4)] [] M := by
  intro x3 x4 hf H locs ls hI hl
  obtain ⟨hx, hb, hml, hr, hown, hts, hlk, hK, hap, hsx⟩ := id C
  unfold mX2_legsHitting_b10 at hf
  refine lv_iload hx hb (dc tbX2_legsHitting_0_k 7 rfl) (lv_at hl 3 rfl) ?_
  refine lv_aload_n hx hb (dc tbX2_legsHitting_0_k 8 rfl) rfl (lv_at hl 0 rfl) ?_
  refine gg2_6 hx hb hts hown hK hI hk0.1 q_t1_208 (dc tbX2_legsHitting_0_k 9 rfl) ?_
  refine lv_icmp_ge (tgt := 114) hx hb (dc tbX2_legsHitting_0_k 10 rfl) rfl (fun c1 => ?_) (fun c1 => ?_)
  · have hf := ite_t c1 hf
    refine lv_iload_n hx hb (dc tbX2_legsHitting_1_k 31 rfl) rfl (lv_at hl 2 rfl) ?_
    cases hf
    exact g_iret hx hb hr hlk hI (dc tbX2_legsHitting_1_k 32 rfl)
  · have hf := ite_f c1 hf
    refine lv_iload hx hb (dc tbX2_legsHitting_0_k 11 rfl) (lv_at hl 3 rfl) ?_
    refine lv_bipush (v := 9) hx hb (dc tbX2_legsHitting_0_k 12 rfl) bp_9 ?_
    refine lv_icmp_ge (tgt := 114) hx hb (dc tbX2_legsHitting_0_k 13 rfl) rfl (fun c2 => ?_) (fun c2 => ?_)
    · have hf := ite_t c2 hf
      refine lv_iload_n hx hb (dc tbX2_legsHitting_1_k 31 rfl) rfl (lv_at hl 2 rfl) ?_
      cases hf
      exact g_iret hx hb hr hlk hI (dc tbX2_legsHitting_1_k 32 rfl)
    · have hf := ite_f c2 hf
      refine lv_aload_n hx hb (dc tbX2_legsHitting_0_k 14 rfl) rfl (lv_at hl 0 rfl) ?_
      refine lv_iload hx hb (dc tbX2_legsHitting_0_k 15 rfl) (lv_at hl 3 rfl) ?_
      refine lv_aload_n hx hb (dc tbX2_legsHitting_0_k 16 rfl) rfl (lv_at hl 1 rfl) ?_
      refine lv_iconst (v := 0) hx hb (dc tbX2_legsHitting_0_k 17 rfl) ic_0 ?_
      obtain ⟨h3, hf⟩ := chk_s hf
      refine g_iald hx hb hK hI hk1.2.2.1 (okb_in h3) (dc tbX2_legsHitting_0_k 18 rfl) ?_
      refine lv_ineg hx hb (dc tbX2_legsHitting_0_k 19 rfl) ?_
      refine lv_iconst (v := 0) hx hb (dc tbX2_legsHitting_0_k 20 rfl) ic_0 ?_
      refine lv_iconst (v := 0) hx hb (dc tbX2_legsHitting_0_k 21 rfl) ic_0 ?_
      refine lv_aload_n hx hb (dc tbX2_legsHitting_0_k 22 rfl) rfl (lv_at hl 1 rfl) ?_
      refine lv_iconst (v := 1) hx hb (dc tbX2_legsHitting_0_k 23 rfl) ic_1 ?_
      obtain ⟨h4, hf⟩ := chk_s hf
      refine g_iald hx hb hK hI hk1.2.2.1 (okb_in h4) (dc tbX2_legsHitting_0_k 24 rfl) ?_
      obtain ⟨r6, q5, hf⟩ := cap_s hf
      refine g_callVi hx hb hml hown hts hK hap hsx hI (tX2_enters l hk0 q5 H.size) cv_X2_enters q_t3_46 rfl rfl ⟨Nat.le_of_ble_eq_true rfl, Nat.le_of_ble_eq_true rfl⟩ hk0.1 (by simp) rfl rfl rfl hl.1 rfl (Nat.le_of_ble_eq_true rfl) (dc tbX2_legsHitting_0_k 25 rfl) ⟨Nat.le_of_ble_eq_true rfl, Nat.le_of_ble_eq_true rfl⟩ (fun H locs hI => ?_)
      refine lv_if_ne (tgt := 89) hx hb (dc tbX2_legsHitting_0_k 26 rfl) rfl (fun c8 => ?_) (fun c8 => ?_)
      · have hf := ite_f c8 hf
        exact tX2_legsHitting_b89 C hk0 hk1 hih10 x3 x4 hf _ _ _ hI (lv_sub hl [0, 1, 2, 3] rfl)
      · have hf := ite_t c8 hf
        refine lv_aload_n hx hb (dc tbX2_legsHitting_0_k 27 rfl) rfl (lv_at hl 0 rfl) ?_
        refine lv_iload hx hb (dc tbX2_legsHitting_0_k 28 rfl) (lv_at hl 3 rfl) ?_
        refine lv_aload_n hx hb (dc tbX2_legsHitting_0_k 29 rfl) rfl (lv_at hl 1 rfl) ?_
        refine lv_iconst (v := 2) hx hb (dc tbX2_legsHitting_0_k 30 rfl) ic_2 ?_
        obtain ⟨h12, hf⟩ := chk_s hf
        refine g_iald hx hb hK hI hk1.2.2.1 (okb_in h12) (dc tbX2_legsHitting_0_k 31 rfl) ?_
        refine lv_ineg hx hb (dc tbX2_legsHitting_0_k 32 rfl) ?_
        refine lv_iconst (v := 0) hx hb (dc tbX2_legsHitting_0_k 33 rfl) ic_0 ?_
        refine lv_aload_n hx hb (dc tbX2_legsHitting_0_k 34 rfl) rfl (lv_at hl 1 rfl) ?_
        refine lv_iconst (v := 3) hx hb (dc tbX2_legsHitting_0_k 35 rfl) ic_3 ?_
        obtain ⟨h13, hf⟩ := chk_s hf
        refine g_iald hx hb hK hI hk1.2.2.1 (okb_in h13) (dc tbX2_legsHitting_0_k 36 rfl) ?_
        refine lv_ineg hx hb (dc tbX2_legsHitting_0_k 37 rfl) ?_
        refine lv_iconst (v := 0) hx hb (dc tbX2_legsHitting_0_k 38 rfl) ic_0 ?_
        obtain ⟨r15, q14, hf⟩ := cap_s hf
        refine g_callVi hx hb hml hown hts hK hap hsx hI (tX2_enters l hk0 q14 H.size) cv_X2_enters q_t3_46 rfl rfl ⟨Nat.le_of_ble_eq_true rfl, Nat.le_of_ble_eq_true rfl⟩ hk0.1 (by simp) rfl rfl rfl hl.1 rfl (Nat.le_of_ble_eq_true rfl) (dc tbX2_legsHitting_0_k 39 rfl) ⟨Nat.le_of_ble_eq_true rfl, Nat.le_of_ble_eq_true rfl⟩ (fun H locs hI => ?_)
        refine lv_if_ne (tgt := 89) hx hb (dc tbX2_legsHitting_1_k 0 rfl) rfl (fun c17 => ?_) (fun c17 => ?_)
        · have hf := ite_f c17 hf
          exact tX2_legsHitting_b89 C hk0 hk1 hih10 x3 x4 hf _ _ _ hI (lv_sub hl [0, 1, 2, 3] rfl)
        · have hf := ite_t c17 hf
          refine lv_aload_n hx hb (dc tbX2_legsHitting_1_k 1 rfl) rfl (lv_at hl 0 rfl) ?_
          refine lv_iload hx hb (dc tbX2_legsHitting_1_k 2 rfl) (lv_at hl 3 rfl) ?_
          obtain ⟨r19, q18, hf⟩ := cap_s hf
          refine g_callVi hx hb hml hown hts hK hap hsx hI (tX2_isClamped l hk0 q18 H.size) cv_X2_isClamped q_t3_38 rfl rfl ⟨Nat.le_of_ble_eq_true rfl, Nat.le_of_ble_eq_true rfl⟩ hk0.1 (by simp) rfl rfl rfl hl.1 rfl (Nat.le_of_ble_eq_true rfl) (dc tbX2_legsHitting_1_k 3 rfl) ⟨Nat.le_of_ble_eq_true rfl, Nat.le_of_ble_eq_true rfl⟩ (fun H locs hI => ?_)
          refine lv_if_ne (tgt := 93) hx hb (dc tbX2_legsHitting_1_k 4 rfl) rfl (fun c21 => ?_) (fun c21 => ?_)
          · have hf := ite_f c21 hf
            exact tX2_legsHitting_b93 C hk0 hk1 hih10 x3 x4 hf _ _ _ hI (lv_sub hl [0, 1, 2, 3] rfl)
          · have hf := ite_t c21 hf
            refine lv_aload_n hx hb (dc tbX2_legsHitting_1_k 5 rfl) rfl (lv_at hl 0 rfl) ?_
            refine lv_iload hx hb (dc tbX2_legsHitting_1_k 6 rfl) (lv_at hl 3 rfl) ?_
            refine lv_iconst (v := 0) hx hb (dc tbX2_legsHitting_1_k 7 rfl) ic_0 ?_
            refine lv_aload_n hx hb (dc tbX2_legsHitting_1_k 8 rfl) rfl (lv_at hl 1 rfl) ?_
            refine lv_iconst (v := 4) hx hb (dc tbX2_legsHitting_1_k 9 rfl) ic_4 ?_
            obtain ⟨h22, hf⟩ := chk_s hf
            refine g_iald hx hb hK hI hk1.2.2.1 (okb_in h22) (dc tbX2_legsHitting_1_k 10 rfl) ?_
            refine lv_iconst (v := 0) hx hb (dc tbX2_legsHitting_1_k 11 rfl) ic_0 ?_
            refine lv_aload_n hx hb (dc tbX2_legsHitting_1_k 12 rfl) rfl (lv_at hl 1 rfl) ?_
            refine lv_iconst (v := 5) hx hb (dc tbX2_legsHitting_1_k 13 rfl) ic_5 ?_
            obtain ⟨h23, hf⟩ := chk_s hf
            refine g_iald hx hb hK hI hk1.2.2.1 (okb_in h23) (dc tbX2_legsHitting_1_k 14 rfl) ?_
            obtain ⟨r25, q24, hf⟩ := cap_s hf
            refine g_callVi hx hb hml hown hts hK hap hsx hI (tX2_enters l hk0 q24 H.size) cv_X2_enters q_t3_46 rfl rfl ⟨Nat.le_of_ble_eq_true rfl, Nat.le_of_ble_eq_true rfl⟩ hk0.1 (by simp) rfl rfl rfl hl.1 rfl (Nat.le_of_ble_eq_true rfl) (dc tbX2_legsHitting_1_k 15 rfl) ⟨Nat.le_of_ble_eq_true rfl, Nat.le_of_ble_eq_true rfl⟩ (fun H locs hI => ?_)
            refine lv_if_eq (tgt := 93) hx hb (dc tbX2_legsHitting_1_k 16 rfl) rfl (fun c27 => ?_) (fun c27 => ?_)
            · have hf := ite_t c27 hf
              exact tX2_legsHitting_b93 C hk0 hk1 hih10 x3 x4 hf _ _ _ hI (lv_sub hl [0, 1, 2, 3] rfl)
            · have hf := ite_f c27 hf
              exact tX2_legsHitting_b89 C hk0 hk1 hih10 x3 x4 hf _ _ _ hI (lv_sub hl [0, 1, 2, 3] rfl)
def mX2_legsHitting_l10 (k0 : Nat) (k1 : Nat) (M : Mem) : Nat → Int32 → Int32 → Option Int32
  | 0 => fun _ _ => none
  | n + 1 => mX2_legsHitting_b10 k0 k1 M (mX2_legsHitting_l10 k0 k1 M n)
theorem tX2_legsHitting_l10 {p : Program} {l : Launch} {e : Env} {s : State} {m : MethodId} {args : Array Value} {below : List Frame} {meth : Method} {c : Code} {G : GT} {kd : Nat → Nat × Nat} {ad : Nat → Nat} (C : Cx p s m args meth c cX2_legsHitting 6 (some .int) RX2 G kd ad) {k0 : Nat} {k1 : Nat} (hk0 : kPlaces kd k0) (hk1 : kPart kd k1) {M : Mem} {vo : Int32}   : ∀ (fuel : Nat) (x3 : Int32) (x4 : Int32), mX2_legsHitting_l10 k0 k1 M fuel x3 x4 = some vo → At p l e (rmO 1 0 0) s m args below meth c 0 0 (MQ below (Qg G kd ad s.heap.size M (some (.int vo))) args s 0 0 (AS kd ad s.heap.size)) G kd ad 6 10 [(0, .ref (ad k0)), (2, .ref (ad (k1 + 2))), (3, .int x3), (4, .int x4)] [] M := by
  intro fuel
  induction fuel with
  | zero => intro x3 x4 hf; cases hf
  | succ n IH => exact tX2_legsHitting_b10 C hk0 hk1 IH
def mX2_legsHitting (k0 : Nat) (k1 : Nat) (M : Mem) : Option Int32 := mX2_legsHitting_l10 k0 k1 M 5000 (0 : Int32) (0 : Int32)
set_option maxHeartbeats 4000000 in
set_option maxRecDepth 100000 in
theorem tX2_legsHitting (l : Launch) {G : GT} {kd : Nat → Nat × Nat} {ad : Nat → Nat} {k0 : Nat} {k1 : Nat} (hk0 : kPlaces kd k0) (hk1 : kPart kd k1) {M : Mem} {vo : Int32} (hf : mX2_legsHitting k0 k1 M = some vo) (n : Nat) : Met l yX2_legsHitting (Cond.code yX2_legsHitting cX2_legsHitting 6 (some .int) :: WA) (rmO 1 0 0) (Pg G kd ad n [.ref (ad k0), .ref (ad k1)] M) (Qg G kd ad n M (some (.int vo))) 0 0 (AS kd ad n) := by
  refine g_body (own := RX2) (by decide) rfl ?_ (Nat.le_of_ble_eq_true rfl)
  intro p e s m args below meth c C _ H locs ls hI hl
  obtain ⟨hx, hb, hml, hr, hown, hts, hlk, hK, hap, hsx⟩ := id C
  have hl : lv_has ls 6 [(0, .ref (ad k0)), (1, .ref (ad k1))] := hl
  unfold mX2_legsHitting at hf
  refine lv_aload_n hx hb (dc tbX2_legsHitting_0_k 0 rfl) rfl (lv_at hl 1 rfl) ?_
  refine gg1_6 hx hb hts hown hK hI hk1.1 q_t1_116 (dc tbX2_legsHitting_0_k 1 rfl) ?_
  refine lv_astore_n (lv' := [(2, .ref (ad (k1 + 2))), (0, .ref (ad k0)), (1, .ref (ad k1))]) hx hb (dc tbX2_legsHitting_0_k 2 rfl) rfl hl (by decide) rfl (fun ls hl => ?_)
  refine lv_iconst (v := 0) hx hb (dc tbX2_legsHitting_0_k 3 rfl) ic_0 ?_
  refine lv_istore_n (lv' := [(3, .int (0 : Int32)), (2, .ref (ad (k1 + 2))), (0, .ref (ad k0)), (1, .ref (ad k1))]) hx hb (dc tbX2_legsHitting_0_k 4 rfl) rfl hl (by decide) rfl (fun ls hl => ?_)
  refine lv_iconst (v := 0) hx hb (dc tbX2_legsHitting_0_k 5 rfl) ic_0 ?_
  refine lv_istore (lv' := [(4, .int (0 : Int32)), (3, .int (0 : Int32)), (2, .ref (ad (k1 + 2))), (0, .ref (ad k0)), (1, .ref (ad k1))]) hx hb (dc tbX2_legsHitting_0_k 6 rfl) hl (by decide) rfl (fun ls hl => ?_)
  exact tX2_legsHitting_l10 C hk0 hk1 5000 (0 : Int32) (0 : Int32) hf _ _ _ hI (lv_sub hl [3, 2, 1, 0] rfl)
theorem cv_X2_legsHitting : cvF RX2 yX2_legsHitting cX2_legsHitting 6 (some .int) 1 := ⟨q_t3_43, q_t3_44, q_t1_5, q_t3_45, by decide +kernel⟩
def mX2_touch (k0 : Nat) (x1 : Int32) (x2 : Int32) (M : Mem) : Option Int32 := chk (okb x1 9) (chk (okb x2 9) (ite2 ((rd M (k0 + 4) (x2).toNatClampNeg) < (rd M (k0 + 3) (x1).toNatClampNeg)) (some (0 : Int32)) (chk (okb x2 9) (chk (okb x1 9) (ite2 ((rd M (k0 + 4) (x1).toNatClampNeg) < (rd M (k0 + 3) (x2).toNatClampNeg)) (some (0 : Int32)) (chk (okb x1 9) (chk (okb x2 9) (ite2 ((rd M (k0 + 6) (x2).toNatClampNeg) < (rd M (k0 + 5) (x1).toNatClampNeg)) (some (0 : Int32)) (chk (okb x2 9) (chk (okb x1 9) (ite2 ((rd M (k0 + 6) (x1).toNatClampNeg) < (rd M (k0 + 5) (x2).toNatClampNeg)) (some (0 : Int32)) (some (1 : Int32)))))))))))))
set_option maxHeartbeats 4000000 in
set_option maxRecDepth 100000 in
theorem tX2_touch (l : Launch) {G : GT} {kd : Nat → Nat × Nat} {ad : Nat → Nat} {k0 : Nat} (hk0 : kPlaces kd k0) {x1 : Int32} {x2 : Int32} {M : Mem} {vo : Int32} (hf : mX2_touch k0 x1 x2 M = some vo) (n : Nat) : Met l yX2_touch (Cond.code yX2_touch cX2_touch 3 (some .boolean) :: WA) (rmO 0 0 0) (Pg G kd ad n [.ref (ad k0), .int x1, .int x2] M) (Qg G kd ad n M (some (.int vo))) 0 0 (AS kd ad n) := by
  refine g_body (own := RX2) (by decide) rfl ?_ (Nat.le_of_ble_eq_true rfl)
  intro p e s m args below meth c C _ H locs ls hI hl
  obtain ⟨hx, hb, hml, hr, hown, hts, hlk, hK, hap, hsx⟩ := id C
  have hl : lv_has ls 3 [(0, .ref (ad k0)), (1, .int x1), (2, .int x2)] := hl
  unfold mX2_touch at hf
  refine lv_aload_n hx hb (dc tbX2_touch_k 0 rfl) rfl (lv_at hl 0 rfl) ?_
  refine gg2_2 hx hb hts hown hK hI hk0.1 q_t1_204 (dc tbX2_touch_k 1 rfl) ?_
  refine lv_iload_n hx hb (dc tbX2_touch_k 2 rfl) rfl (lv_at hl 1 rfl) ?_
  obtain ⟨h1, hf⟩ := chk_s hf
  refine g_iald hx hb hK hI hk0.2.2.2.1 (okb_in h1) (dc tbX2_touch_k 3 rfl) ?_
  refine lv_aload_n hx hb (dc tbX2_touch_k 4 rfl) rfl (lv_at hl 0 rfl) ?_
  refine gg2_3 hx hb hts hown hK hI hk0.1 q_t1_205 (dc tbX2_touch_k 5 rfl) ?_
  refine lv_iload_n hx hb (dc tbX2_touch_k 6 rfl) rfl (lv_at hl 2 rfl) ?_
  obtain ⟨h2, hf⟩ := chk_s hf
  refine g_iald hx hb hK hI hk0.2.2.2.2.1 (okb_in h2) (dc tbX2_touch_k 7 rfl) ?_
  refine lv_icmp_gt (tgt := 64) hx hb (dc tbX2_touch_k 8 rfl) rfl (fun c3 => ?_) (fun c3 => ?_)
  · have hf := ite_t c3 hf
    refine lv_iconst (v := 0) hx hb (dc tbX2_touch_k 38 rfl) ic_0 ?_
    cases hf
    exact g_zret hx hb hr hlk hI rfl (dc tbX2_touch_k 39 rfl)
  · have hf := ite_f c3 hf
    refine lv_aload_n hx hb (dc tbX2_touch_k 9 rfl) rfl (lv_at hl 0 rfl) ?_
    refine gg2_2 hx hb hts hown hK hI hk0.1 q_t1_204 (dc tbX2_touch_k 10 rfl) ?_
    refine lv_iload_n hx hb (dc tbX2_touch_k 11 rfl) rfl (lv_at hl 2 rfl) ?_
    obtain ⟨h4, hf⟩ := chk_s hf
    refine g_iald hx hb hK hI hk0.2.2.2.1 (okb_in h4) (dc tbX2_touch_k 12 rfl) ?_
    refine lv_aload_n hx hb (dc tbX2_touch_k 13 rfl) rfl (lv_at hl 0 rfl) ?_
    refine gg2_3 hx hb hts hown hK hI hk0.1 q_t1_205 (dc tbX2_touch_k 14 rfl) ?_
    refine lv_iload_n hx hb (dc tbX2_touch_k 15 rfl) rfl (lv_at hl 1 rfl) ?_
    obtain ⟨h5, hf⟩ := chk_s hf
    refine g_iald hx hb hK hI hk0.2.2.2.2.1 (okb_in h5) (dc tbX2_touch_k 16 rfl) ?_
    refine lv_icmp_gt (tgt := 64) hx hb (dc tbX2_touch_k 17 rfl) rfl (fun c6 => ?_) (fun c6 => ?_)
    · have hf := ite_t c6 hf
      refine lv_iconst (v := 0) hx hb (dc tbX2_touch_k 38 rfl) ic_0 ?_
      cases hf
      exact g_zret hx hb hr hlk hI rfl (dc tbX2_touch_k 39 rfl)
    · have hf := ite_f c6 hf
      refine lv_aload_n hx hb (dc tbX2_touch_k 18 rfl) rfl (lv_at hl 0 rfl) ?_
      refine gg2_4 hx hb hts hown hK hI hk0.1 q_t1_206 (dc tbX2_touch_k 19 rfl) ?_
      refine lv_iload_n hx hb (dc tbX2_touch_k 20 rfl) rfl (lv_at hl 1 rfl) ?_
      obtain ⟨h7, hf⟩ := chk_s hf
      refine g_iald hx hb hK hI hk0.2.2.2.2.2.1 (okb_in h7) (dc tbX2_touch_k 21 rfl) ?_
      refine lv_aload_n hx hb (dc tbX2_touch_k 22 rfl) rfl (lv_at hl 0 rfl) ?_
      refine gg2_5 hx hb hts hown hK hI hk0.1 q_t1_207 (dc tbX2_touch_k 23 rfl) ?_
      refine lv_iload_n hx hb (dc tbX2_touch_k 24 rfl) rfl (lv_at hl 2 rfl) ?_
      obtain ⟨h8, hf⟩ := chk_s hf
      refine g_iald hx hb hK hI hk0.2.2.2.2.2.2 (okb_in h8) (dc tbX2_touch_k 25 rfl) ?_
      refine lv_icmp_gt (tgt := 64) hx hb (dc tbX2_touch_k 26 rfl) rfl (fun c9 => ?_) (fun c9 => ?_)
      · have hf := ite_t c9 hf
        refine lv_iconst (v := 0) hx hb (dc tbX2_touch_k 38 rfl) ic_0 ?_
        cases hf
        exact g_zret hx hb hr hlk hI rfl (dc tbX2_touch_k 39 rfl)
      · have hf := ite_f c9 hf
        refine lv_aload_n hx hb (dc tbX2_touch_k 27 rfl) rfl (lv_at hl 0 rfl) ?_
        refine gg2_4 hx hb hts hown hK hI hk0.1 q_t1_206 (dc tbX2_touch_k 28 rfl) ?_
        refine lv_iload_n hx hb (dc tbX2_touch_k 29 rfl) rfl (lv_at hl 2 rfl) ?_
        obtain ⟨h10, hf⟩ := chk_s hf
        refine g_iald hx hb hK hI hk0.2.2.2.2.2.1 (okb_in h10) (dc tbX2_touch_k 30 rfl) ?_
        refine lv_aload_n hx hb (dc tbX2_touch_k 31 rfl) rfl (lv_at hl 0 rfl) ?_
        refine gg2_5 hx hb hts hown hK hI hk0.1 q_t1_207 (dc tbX2_touch_k 32 rfl) ?_
        refine lv_iload_n hx hb (dc tbX2_touch_k 33 rfl) rfl (lv_at hl 1 rfl) ?_
        obtain ⟨h11, hf⟩ := chk_s hf
        refine g_iald hx hb hK hI hk0.2.2.2.2.2.2 (okb_in h11) (dc tbX2_touch_k 34 rfl) ?_
        refine lv_icmp_gt (tgt := 64) hx hb (dc tbX2_touch_k 35 rfl) rfl (fun c12 => ?_) (fun c12 => ?_)
        · have hf := ite_t c12 hf
          refine lv_iconst (v := 0) hx hb (dc tbX2_touch_k 38 rfl) ic_0 ?_
          cases hf
          exact g_zret hx hb hr hlk hI rfl (dc tbX2_touch_k 39 rfl)
        · have hf := ite_f c12 hf
          refine lv_iconst (v := 1) hx hb (dc tbX2_touch_k 36 rfl) ic_1 ?_
          refine lv_goto (tgt := 65) hx hb (dc tbX2_touch_k 37 rfl) rfl ?_
          cases hf
          exact g_zret hx hb hr hlk hI rfl (dc tbX2_touch_k 39 rfl)
theorem cv_X2_touch : cvF RX2 yX2_touch cX2_touch 3 (some .boolean) 2 := ⟨q_t2_222, q_s1_4, q_t1_5, q_t2_223, by decide +kernel⟩
def mX2_crossesItself_b18 (k0 : Nat) (M : Mem) (ih2 : Int32 → Option Int32) (ih18 : Int32 → Int32 → Option Int32) (x1 : Int32) (x2 : Int32) : Option Int32 := ite2 ((x1 - (1 : Int32)) ≤ x2) (bnd (x1 + (1 : Int32)) (fun x1_42 => ih2 x1_42)) (cap (mX2_touch k0 x1 x2 M) (fun r6 => ite2 (r6 = 0) (bnd (x2 + (1 : Int32)) (fun x2_36 => ih18 x1 x2_36)) (some (1 : Int32))))
set_option maxHeartbeats 4000000 in
set_option maxRecDepth 100000 in
theorem tX2_crossesItself_b18 {p : Program} {l : Launch} {e : Env} {s : State} {m : MethodId} {args : Array Value} {below : List Frame} {meth : Method} {c : Code} {G : GT} {kd : Nat → Nat × Nat} {ad : Nat → Nat} (C : Cx p s m args meth c cX2_crossesItself 3 (some .boolean) RX2 G kd ad) {k0 : Nat} (hk0 : kPlaces kd k0) {M : Mem} {vo : Int32} {ih2 : Int32 → Option Int32} {ih18 : Int32 → Int32 → Option Int32} (hih2 : ∀ (x1 : Int32), ih2 x1 = some vo → At p l e (rmO 1 0 0) s m args below meth c 0 0 (MQ below (Qg G kd ad s.heap.size M (some (.int vo))) args s 0 0 (AS kd ad s.heap.size)) G kd ad 3 2 [(0, .ref (ad k0)), (1, .int x1)] [] M) (hih18 : ∀ (x1 : Int32) (x2 : Int32), ih18 x1 x2 = some vo → At p l e (rmO 1 0 0) s m args below meth c 0 0 (MQ below (Qg G kd ad s.heap.size M (some (.int vo))) args s 0 0 (AS kd ad s.heap.size)) G kd ad 3 18 [(0, .ref (ad k0)), (1, .int x1), (2, .int x2)] [] M) : ∀ (x1 : Int32) (x2 : Int32), mX2_crossesItself_b18 k0 M ih2 ih18 x1 x2 = some vo → At p l e (rmO 1 0 0) s m args below meth c 0 0 (MQ below (Qg G kd ad s.heap.size M (some (.int vo))) args s 0 0 (AS kd ad s.heap.size)) G kd ad 3 18 [(0, .ref (ad k0)), (1, .int x1), (2, .int x2)] [] M := by
  intro x1 x2 hf H locs ls hI hl
  obtain ⟨hx, hb, hml, hr, hown, hts, hlk, hK, hap, hsx⟩ := id C
  unfold mX2_crossesItself_b18 at hf
  refine lv_iload_n hx hb (dc tbX2_crossesItself_k 11 rfl) rfl (lv_at hl 2 rfl) ?_
  refine lv_iload_n hx hb (dc tbX2_crossesItself_k 12 rfl) rfl (lv_at hl 1 rfl) ?_
  refine lv_iconst (v := 1) hx hb (dc tbX2_crossesItself_k 13 rfl) ic_1 ?_
  refine lv_isub hx hb (dc tbX2_crossesItself_k 14 rfl) ?_
  refine lv_icmp_ge (tgt := 42) hx hb (dc tbX2_crossesItself_k 15 rfl) rfl (fun c3 => ?_) (fun c3 => ?_)
  · have hf := ite_t c3 hf
    obtain ⟨x1_42, e4, hf⟩ := bnd_s hf
    refine lv_iinc (v := x1_42) (lv' := [(1, .int x1_42), (0, .ref (ad k0)), (2, .int x2)]) hx hb (dc tbX2_crossesItself_k 25 rfl) hl (k := 1) rfl (ii_e e4 ic_1) (by decide) rfl (fun ls hl => ?_)
    refine lv_goto (tgt := 2) hx hb (dc tbX2_crossesItself_k 26 rfl) rfl ?_
    exact hih2 x1_42 hf _ _ _ hI (lv_sub hl [1, 0] rfl)
  · have hf := ite_f c3 hf
    refine lv_aload_n hx hb (dc tbX2_crossesItself_k 16 rfl) rfl (lv_at hl 0 rfl) ?_
    refine lv_iload_n hx hb (dc tbX2_crossesItself_k 17 rfl) rfl (lv_at hl 1 rfl) ?_
    refine lv_iload_n hx hb (dc tbX2_crossesItself_k 18 rfl) rfl (lv_at hl 2 rfl) ?_
    obtain ⟨r6, q5, hf⟩ := cap_s hf
    refine g_callVi hx hb hml hown hts hK hap hsx hI (tX2_touch l hk0 q5 H.size) cv_X2_touch q_t2_220 rfl rfl ⟨Nat.le_of_ble_eq_true rfl, Nat.le_of_ble_eq_true rfl⟩ hk0.1 (by simp) rfl rfl rfl hl.1 rfl (Nat.le_of_ble_eq_true rfl) (dc tbX2_crossesItself_k 19 rfl) ⟨Nat.le_of_ble_eq_true rfl, Nat.le_of_ble_eq_true rfl⟩ (fun H locs hI => ?_)
    refine lv_if_eq (tgt := 36) hx hb (dc tbX2_crossesItself_k 20 rfl) rfl (fun c8 => ?_) (fun c8 => ?_)
    · have hf := ite_t c8 hf
      obtain ⟨x2_36, e9, hf⟩ := bnd_s hf
      refine lv_iinc (v := x2_36) (lv' := [(2, .int x2_36), (0, .ref (ad k0)), (1, .int x1)]) hx hb (dc tbX2_crossesItself_k 23 rfl) hl (k := 2) rfl (ii_e e9 ic_1) (by decide) rfl (fun ls hl => ?_)
      refine lv_goto (tgt := 18) hx hb (dc tbX2_crossesItself_k 24 rfl) rfl ?_
      exact hih18 x1 x2_36 hf _ _ _ hI (lv_sub hl [1, 2, 0] rfl)
    · have hf := ite_f c8 hf
      refine lv_iconst (v := 1) hx hb (dc tbX2_crossesItself_k 21 rfl) ic_1 ?_
      cases hf
      exact g_zret hx hb hr hlk hI rfl (dc tbX2_crossesItself_k 22 rfl)
def mX2_crossesItself_l18 (k0 : Nat) (M : Mem) (ih2 : Int32 → Option Int32) : Nat → Int32 → Int32 → Option Int32
  | 0 => fun _ _ => none
  | n + 1 => mX2_crossesItself_b18 k0 M ih2 (mX2_crossesItself_l18 k0 M ih2 n)
theorem tX2_crossesItself_l18 {p : Program} {l : Launch} {e : Env} {s : State} {m : MethodId} {args : Array Value} {below : List Frame} {meth : Method} {c : Code} {G : GT} {kd : Nat → Nat × Nat} {ad : Nat → Nat} (C : Cx p s m args meth c cX2_crossesItself 3 (some .boolean) RX2 G kd ad) {k0 : Nat} (hk0 : kPlaces kd k0) {M : Mem} {vo : Int32} {ih2 : Int32 → Option Int32} (hih2 : ∀ (x1 : Int32), ih2 x1 = some vo → At p l e (rmO 1 0 0) s m args below meth c 0 0 (MQ below (Qg G kd ad s.heap.size M (some (.int vo))) args s 0 0 (AS kd ad s.heap.size)) G kd ad 3 2 [(0, .ref (ad k0)), (1, .int x1)] [] M) : ∀ (fuel : Nat) (x1 : Int32) (x2 : Int32), mX2_crossesItself_l18 k0 M ih2 fuel x1 x2 = some vo → At p l e (rmO 1 0 0) s m args below meth c 0 0 (MQ below (Qg G kd ad s.heap.size M (some (.int vo))) args s 0 0 (AS kd ad s.heap.size)) G kd ad 3 18 [(0, .ref (ad k0)), (1, .int x1), (2, .int x2)] [] M := by
  intro fuel
  induction fuel with
  | zero => intro x1 x2 hf; cases hf
  | succ n IH => exact tX2_crossesItself_b18 C hk0 hih2 IH
def mX2_crossesItself_b2 (k0 : Nat) (M : Mem) (ih2 : Int32 → Option Int32) (x1 : Int32) : Option Int32 := ite2 ((rd M k0 6) ≤ x1) (some (0 : Int32)) (ite2 ((9 : Int32) ≤ x1) (some (0 : Int32)) (mX2_crossesItself_l18 k0 M ih2 5000 x1 (0 : Int32)))
set_option maxHeartbeats 4000000 in
set_option maxRecDepth 100000 in
theorem tX2_crossesItself_b2 {p : Program} {l : Launch} {e : Env} {s : State} {m : MethodId} {args : Array Value} {below : List Frame} {meth : Method} {c : Code} {G : GT} {kd : Nat → Nat × Nat} {ad : Nat → Nat} (C : Cx p s m args meth c cX2_crossesItself 3 (some .boolean) RX2 G kd ad) {k0 : Nat} (hk0 : kPlaces kd k0) {M : Mem} {vo : Int32} {ih2 : Int32 → Option Int32} (hih2 : ∀ (x1 : Int32), ih2 x1 = some vo → At p l e (rmO 1 0 0) s m args below meth c 0 0 (MQ below (Qg G kd ad s.heap.size M (some (.int vo))) args s 0 0 (AS kd ad s.heap.size)) G kd ad 3 2 [(0, .ref (ad k0)), (1, .int x1)] [] M) : ∀ (x1 : Int32), mX2_crossesItself_b2 k0 M ih2 x1 = some vo → At p l e (rmO 1 0 0) s m args below meth c 0 0 (MQ below (Qg G kd ad s.heap.size M (some (.int vo))) args s 0 0 (AS kd ad s.heap.size)) G kd ad 3 2 [(0, .ref (ad k0)), (1, .int x1)] [] M := by
  intro x1 hf H locs ls hI hl
  obtain ⟨hx, hb, hml, hr, hown, hts, hlk, hK, hap, hsx⟩ := id C
  unfold mX2_crossesItself_b2 at hf
  refine lv_iload_n hx hb (dc tbX2_crossesItself_k 2 rfl) rfl (lv_at hl 1 rfl) ?_
  refine lv_aload_n hx hb (dc tbX2_crossesItself_k 3 rfl) rfl (lv_at hl 0 rfl) ?_
  refine gg2_6 hx hb hts hown hK hI hk0.1 q_t1_208 (dc tbX2_crossesItself_k 4 rfl) ?_
  refine lv_icmp_ge (tgt := 48) hx hb (dc tbX2_crossesItself_k 5 rfl) rfl (fun c1 => ?_) (fun c1 => ?_)
  · have hf := ite_t c1 hf
    refine lv_iconst (v := 0) hx hb (dc tbX2_crossesItself_k 27 rfl) ic_0 ?_
    cases hf
    exact g_zret hx hb hr hlk hI rfl (dc tbX2_crossesItself_k 28 rfl)
  · have hf := ite_f c1 hf
    refine lv_iload_n hx hb (dc tbX2_crossesItself_k 6 rfl) rfl (lv_at hl 1 rfl) ?_
    refine lv_bipush (v := 9) hx hb (dc tbX2_crossesItself_k 7 rfl) bp_9 ?_
    refine lv_icmp_ge (tgt := 48) hx hb (dc tbX2_crossesItself_k 8 rfl) rfl (fun c2 => ?_) (fun c2 => ?_)
    · have hf := ite_t c2 hf
      refine lv_iconst (v := 0) hx hb (dc tbX2_crossesItself_k 27 rfl) ic_0 ?_
      cases hf
      exact g_zret hx hb hr hlk hI rfl (dc tbX2_crossesItself_k 28 rfl)
    · have hf := ite_f c2 hf
      refine lv_iconst (v := 0) hx hb (dc tbX2_crossesItself_k 9 rfl) ic_0 ?_
      refine lv_istore_n (lv' := [(2, .int (0 : Int32)), (0, .ref (ad k0)), (1, .int x1)]) hx hb (dc tbX2_crossesItself_k 10 rfl) rfl hl (by decide) rfl (fun ls hl => ?_)
      exact tX2_crossesItself_l18 C hk0 hih2 5000 x1 (0 : Int32) hf _ _ _ hI (lv_sub hl [1, 2, 0] rfl)
def mX2_crossesItself_l2 (k0 : Nat) (M : Mem) : Nat → Int32 → Option Int32
  | 0 => fun _ => none
  | n + 1 => mX2_crossesItself_b2 k0 M (mX2_crossesItself_l2 k0 M n)
theorem tX2_crossesItself_l2 {p : Program} {l : Launch} {e : Env} {s : State} {m : MethodId} {args : Array Value} {below : List Frame} {meth : Method} {c : Code} {G : GT} {kd : Nat → Nat × Nat} {ad : Nat → Nat} (C : Cx p s m args meth c cX2_crossesItself 3 (some .boolean) RX2 G kd ad) {k0 : Nat} (hk0 : kPlaces kd k0) {M : Mem} {vo : Int32}   : ∀ (fuel : Nat) (x1 : Int32), mX2_crossesItself_l2 k0 M fuel x1 = some vo → At p l e (rmO 1 0 0) s m args below meth c 0 0 (MQ below (Qg G kd ad s.heap.size M (some (.int vo))) args s 0 0 (AS kd ad s.heap.size)) G kd ad 3 2 [(0, .ref (ad k0)), (1, .int x1)] [] M := by
  intro fuel
  induction fuel with
  | zero => intro x1 hf; cases hf
  | succ n IH => exact tX2_crossesItself_b2 C hk0 IH
def mX2_crossesItself (k0 : Nat) (M : Mem) : Option Int32 := mX2_crossesItself_l2 k0 M 5000 (2 : Int32)
set_option maxHeartbeats 4000000 in
set_option maxRecDepth 100000 in
theorem tX2_crossesItself (l : Launch) {G : GT} {kd : Nat → Nat × Nat} {ad : Nat → Nat} {k0 : Nat} (hk0 : kPlaces kd k0) {M : Mem} {vo : Int32} (hf : mX2_crossesItself k0 M = some vo) (n : Nat) : Met l yX2_crossesItself (Cond.code yX2_crossesItself cX2_crossesItself 3 (some .boolean) :: WA) (rmO 1 0 0) (Pg G kd ad n [.ref (ad k0)] M) (Qg G kd ad n M (some (.int vo))) 0 0 (AS kd ad n) := by
  refine g_body (own := RX2) (by decide) rfl ?_ (Nat.le_of_ble_eq_true rfl)
  intro p e s m args below meth c C _ H locs ls hI hl
  obtain ⟨hx, hb, hml, hr, hown, hts, hlk, hK, hap, hsx⟩ := id C
  have hl : lv_has ls 3 [(0, .ref (ad k0))] := hl
  unfold mX2_crossesItself at hf
  refine lv_iconst (v := 2) hx hb (dc tbX2_crossesItself_k 0 rfl) ic_2 ?_
  refine lv_istore_n (lv' := [(1, .int (2 : Int32)), (0, .ref (ad k0))]) hx hb (dc tbX2_crossesItself_k 1 rfl) rfl hl (by decide) rfl (fun ls hl => ?_)
  exact tX2_crossesItself_l2 C hk0 5000 (2 : Int32) hf _ _ _ hI (lv_sub hl [1, 0] rfl)
theorem cv_X2_crossesItself : cvF RX2 yX2_crossesItself cX2_crossesItself 3 (some .boolean) 0 := ⟨q_t2_217, q_t2_218, q_t1_5, q_t2_219, by decide +kernel⟩
def mX2_reasonFor_b20 (k0 : Nat) (k1 : Nat) (x2 : Int32) (x3 : Int32) (x4 : Int32) (y0 : Int32) (M : Mem) : Option (Mem × Int32) := ite2 (((x2 >>> (x4 &&& 31)) &&& (1 : Int32)) = 0) (ite2 (y0 < 0) (some (M, (2 : Int32))) (ite2 ((9 : Int32) ≤ y0) (some (M, (2 : Int32))) (chk (okb y0 9) (chk (okb (8 : Int32) 10) (ite2 ((rd M (k1 + 2) ((8 : Int32)).toNatClampNeg) ≤ (rd M (k1 + 1) (y0).toNatClampNeg)) (cal (mX2_layStep k0 k1 x2 x3 M) (fun M11 _ => cap (mX2_reachToBack k0 M11) (fun r13 => chk (okb (6 : Int32) 10) (ite2 (r13 < (rd M11 (k1 + 2) ((6 : Int32)).toNatClampNeg)) (some (M11, (3 : Int32))) (chk (okb (7 : Int32) 10) (ite2 (r13 ≤ (rd M11 (k1 + 2) ((7 : Int32)).toNatClampNeg)) (cap (mX2_legsHitting k0 k1 M11) (fun r20 => bnd ((((2 : Int32) <<< ((rd M11 k0 8) &&& 31)) - ((1 : Int32) <<< ((rd M11 k0 7) &&& 31)))) (fun x8_123 => ite2 ((r20 &&& x8_123) = 0) (ite2 (r20 = 0) (cap (mX2_crossesItself k0 M11) (fun r26 => ite2 (r26 = 0) (some (M11, (0 : Int32))) (some (M11, (6 : Int32))))) (some (M11, (5 : Int32)))) (some (M11, (4 : Int32)))))) (some (M11, (3 : Int32))))))))) (some (M, (2 : Int32)))))))) (some (M, (1 : Int32)))
set_option maxHeartbeats 4000000 in
set_option maxRecDepth 100000 in
theorem tX2_reasonFor_b20 {p : Program} {l : Launch} {e : Env} {s : State} {m : MethodId} {args : Array Value} {below : List Frame} {meth : Method} {c : Code} {G : GT} {kd : Nat → Nat × Nat} {ad : Nat → Nat} (C : Cx p s m args meth c cX2_reasonFor 9 (some .int) RX2 G kd ad) {k0 : Nat} {k1 : Nat} (hk0 : kPlaces kd k0) (hk1 : kPart kd k1) {MO : Mem} {vo : Int32}   : ∀ (x2 : Int32) (x3 : Int32) (x4 : Int32) (y0 : Int32) (M : Mem), mX2_reasonFor_b20 k0 k1 x2 x3 x4 y0 M = some (MO, vo) → At p l e (rmO 2 0 0) s m args below meth c 0 0 (MQ below (Qg G kd ad s.heap.size MO (some (.int vo))) args s 0 0 (AS kd ad s.heap.size)) G kd ad 9 20 [(0, .ref (ad k0)), (1, .ref (ad k1)), (2, .int x2), (3, .int x3), (4, .int x4)] [.int y0] M := by
  intro x2 x3 x4 y0 M hf H locs ls hI hl
  obtain ⟨hx, hb, hml, hr, hown, hts, hlk, hK, hap, hsx⟩ := id C
  unfold mX2_reasonFor_b20 at hf
  refine lv_istore (lv' := [(5, .int y0), (0, .ref (ad k0)), (1, .ref (ad k1)), (2, .int x2), (3, .int x3), (4, .int x4)]) hx hb (dc tbX2_reasonFor_0_k 13 rfl) hl (by decide) rfl (fun ls hl => ?_)
  refine lv_iload_n hx hb (dc tbX2_reasonFor_0_k 14 rfl) rfl (lv_at hl 3 rfl) ?_
  refine lv_iload hx hb (dc tbX2_reasonFor_0_k 15 rfl) (lv_at hl 5 rfl) ?_
  refine lv_ishr hx hb (dc tbX2_reasonFor_0_k 16 rfl) ?_
  refine lv_iconst (v := 1) hx hb (dc tbX2_reasonFor_0_k 17 rfl) ic_1 ?_
  refine lv_iand hx hb (dc tbX2_reasonFor_0_k 18 rfl) ?_
  refine lv_if_eq (tgt := 33) hx hb (dc tbX2_reasonFor_0_k 19 rfl) rfl (fun c3 => ?_) (fun c3 => ?_)
  · have hf := ite_t c3 hf
    refine lv_iload hx hb (dc tbX2_reasonFor_0_k 22 rfl) (lv_at hl 0 rfl) ?_
    refine lv_if_lt (tgt := 62) hx hb (dc tbX2_reasonFor_0_k 23 rfl) rfl (fun c4 => ?_) (fun c4 => ?_)
    · have hf := ite_t c4 hf
      refine lv_iconst (v := 2) hx hb (dc tbX2_reasonFor_0_k 36 rfl) ic_2 ?_
      cases hf
      exact g_iret hx hb hr hlk hI (dc tbX2_reasonFor_0_k 37 rfl)
    · have hf := ite_f c4 hf
      refine lv_iload hx hb (dc tbX2_reasonFor_0_k 24 rfl) (lv_at hl 0 rfl) ?_
      refine lv_bipush (v := 9) hx hb (dc tbX2_reasonFor_0_k 25 rfl) bp_9 ?_
      refine lv_icmp_ge (tgt := 62) hx hb (dc tbX2_reasonFor_0_k 26 rfl) rfl (fun c5 => ?_) (fun c5 => ?_)
      · have hf := ite_t c5 hf
        refine lv_iconst (v := 2) hx hb (dc tbX2_reasonFor_0_k 36 rfl) ic_2 ?_
        cases hf
        exact g_iret hx hb hr hlk hI (dc tbX2_reasonFor_0_k 37 rfl)
      · have hf := ite_f c5 hf
        refine lv_aload_n hx hb (dc tbX2_reasonFor_0_k 27 rfl) rfl (lv_at hl 2 rfl) ?_
        refine gg1_1 hx hb hts hown hK hI hk1.1 q_t1_106 (dc tbX2_reasonFor_0_k 28 rfl) ?_
        refine lv_iload hx hb (dc tbX2_reasonFor_0_k 29 rfl) (lv_at hl 0 rfl) ?_
        obtain ⟨h6, hf⟩ := chk_s hf
        refine g_iald hx hb hK hI hk1.2.1 (okb_in h6) (dc tbX2_reasonFor_0_k 30 rfl) ?_
        refine lv_aload_n hx hb (dc tbX2_reasonFor_0_k 31 rfl) rfl (lv_at hl 2 rfl) ?_
        refine gg1_6 hx hb hts hown hK hI hk1.1 q_t1_116 (dc tbX2_reasonFor_0_k 32 rfl) ?_
        refine lv_bipush (v := 8) hx hb (dc tbX2_reasonFor_0_k 33 rfl) bp_8 ?_
        obtain ⟨h7, hf⟩ := chk_s hf
        refine g_iald hx hb hK hI hk1.2.2.1 (okb_in h7) (dc tbX2_reasonFor_0_k 34 rfl) ?_
        refine lv_icmp_ge (tgt := 64) hx hb (dc tbX2_reasonFor_0_k 35 rfl) rfl (fun c8 => ?_) (fun c8 => ?_)
        · have hf := ite_t c8 hf
          refine lv_aload_n hx hb (dc tbX2_reasonFor_0_k 38 rfl) rfl (lv_at hl 1 rfl) ?_
          refine lv_aload_n hx hb (dc tbX2_reasonFor_0_k 39 rfl) rfl (lv_at hl 2 rfl) ?_
          refine lv_iload_n hx hb (dc tbX2_reasonFor_1_k 0 rfl) rfl (lv_at hl 3 rfl) ?_
          refine lv_iload_n hx hb (dc tbX2_reasonFor_1_k 1 rfl) rfl (lv_at hl 4 rfl) ?_
          obtain ⟨M11, r10, q9, hf⟩ := cal_s hf
          refine g_callVv hx hb hml hown hts hK hap hsx hI (tX2_layStep l hk0 hk1 q9 H.size) cv_X2_layStep q_t3_29 rfl rfl ⟨Nat.le_of_ble_eq_true rfl, Nat.le_of_ble_eq_true rfl⟩ hk0.1 (by simp) rfl rfl rfl hl.1 rfl (Nat.le_of_ble_eq_true rfl) (dc tbX2_reasonFor_1_k 2 rfl) ⟨Nat.le_of_ble_eq_true rfl, Nat.le_of_ble_eq_true rfl⟩ (fun H locs hI => ?_)
          refine lv_aload_n hx hb (dc tbX2_reasonFor_1_k 3 rfl) rfl (lv_at hl 1 rfl) ?_
          obtain ⟨r13, q12, hf⟩ := cap_s hf
          refine g_callVi hx hb hml hown hts hK hap hsx hI (tX2_reachToBack l hk0 q12 H.size) cv_X2_reachToBack q_t3_34 rfl rfl ⟨Nat.le_of_ble_eq_true rfl, Nat.le_of_ble_eq_true rfl⟩ hk0.1 (by simp) rfl rfl rfl hl.1 rfl (Nat.le_of_ble_eq_true rfl) (dc tbX2_reasonFor_1_k 4 rfl) ⟨Nat.le_of_ble_eq_true rfl, Nat.le_of_ble_eq_true rfl⟩ (fun H locs hI => ?_)
          refine lv_istore (lv' := [(6, .int r13), (5, .int y0), (0, .ref (ad k0)), (1, .ref (ad k1)), (2, .int x2), (3, .int x3), (4, .int x4)]) hx hb (dc tbX2_reasonFor_1_k 5 rfl) hl (by decide) rfl (fun ls hl => ?_)
          refine lv_iload hx hb (dc tbX2_reasonFor_1_k 6 rfl) (lv_at hl 0 rfl) ?_
          refine lv_aload_n hx hb (dc tbX2_reasonFor_1_k 7 rfl) rfl (lv_at hl 3 rfl) ?_
          refine gg1_6 hx hb hts hown hK hI hk1.1 q_t1_116 (dc tbX2_reasonFor_1_k 8 rfl) ?_
          refine lv_bipush (v := 6) hx hb (dc tbX2_reasonFor_1_k 9 rfl) bp_6 ?_
          obtain ⟨h15, hf⟩ := chk_s hf
          refine g_iald hx hb hK hI hk1.2.2.1 (okb_in h15) (dc tbX2_reasonFor_1_k 10 rfl) ?_
          refine lv_icmp_lt (tgt := 101) hx hb (dc tbX2_reasonFor_1_k 11 rfl) rfl (fun c16 => ?_) (fun c16 => ?_)
          · have hf := ite_t c16 hf
            refine lv_iconst (v := 3) hx hb (dc tbX2_reasonFor_1_k 18 rfl) ic_3 ?_
            cases hf
            exact g_iret hx hb hr hlk hI (dc tbX2_reasonFor_1_k 19 rfl)
          · have hf := ite_f c16 hf
            refine lv_iload hx hb (dc tbX2_reasonFor_1_k 12 rfl) (lv_at hl 0 rfl) ?_
            refine lv_aload_n hx hb (dc tbX2_reasonFor_1_k 13 rfl) rfl (lv_at hl 3 rfl) ?_
            refine gg1_6 hx hb hts hown hK hI hk1.1 q_t1_116 (dc tbX2_reasonFor_1_k 14 rfl) ?_
            refine lv_bipush (v := 7) hx hb (dc tbX2_reasonFor_1_k 15 rfl) bp_7 ?_
            obtain ⟨h17, hf⟩ := chk_s hf
            refine g_iald hx hb hK hI hk1.2.2.1 (okb_in h17) (dc tbX2_reasonFor_1_k 16 rfl) ?_
            refine lv_icmp_le (tgt := 103) hx hb (dc tbX2_reasonFor_1_k 17 rfl) rfl (fun c18 => ?_) (fun c18 => ?_)
            · have hf := ite_t c18 hf
              refine lv_aload_n hx hb (dc tbX2_reasonFor_1_k 20 rfl) rfl (lv_at hl 2 rfl) ?_
              refine lv_aload_n hx hb (dc tbX2_reasonFor_1_k 21 rfl) rfl (lv_at hl 3 rfl) ?_
              obtain ⟨r20, q19, hf⟩ := cap_s hf
              refine g_callVi hx hb hml hown hts hK hap hsx hI (tX2_legsHitting l hk0 hk1 q19 H.size) cv_X2_legsHitting q_t3_42 rfl rfl ⟨Nat.le_of_ble_eq_true rfl, Nat.le_of_ble_eq_true rfl⟩ hk0.1 (by simp) rfl rfl rfl hl.1 rfl (Nat.le_of_ble_eq_true rfl) (dc tbX2_reasonFor_1_k 22 rfl) ⟨Nat.le_of_ble_eq_true rfl, Nat.le_of_ble_eq_true rfl⟩ (fun H locs hI => ?_)
              refine lv_istore (lv' := [(7, .int r20), (6, .int r13), (5, .int y0), (0, .ref (ad k0)), (1, .ref (ad k1)), (2, .int x2), (3, .int x3), (4, .int x4)]) hx hb (dc tbX2_reasonFor_1_k 23 rfl) hl (by decide) rfl (fun ls hl => ?_)
              refine lv_iconst (v := 2) hx hb (dc tbX2_reasonFor_1_k 24 rfl) ic_2 ?_
              refine lv_aload_n hx hb (dc tbX2_reasonFor_1_k 25 rfl) rfl (lv_at hl 3 rfl) ?_
              refine gg2_8 hx hb hts hown hK hI hk0.1 q_t1_210 (dc tbX2_reasonFor_1_k 26 rfl) ?_
              refine lv_ishl hx hb (dc tbX2_reasonFor_1_k 27 rfl) ?_
              refine lv_iconst (v := 1) hx hb (dc tbX2_reasonFor_1_k 28 rfl) ic_1 ?_
              refine lv_aload_n hx hb (dc tbX2_reasonFor_1_k 29 rfl) rfl (lv_at hl 3 rfl) ?_
              refine gg2_7 hx hb hts hown hK hI hk0.1 q_t1_209 (dc tbX2_reasonFor_1_k 30 rfl) ?_
              refine lv_ishl hx hb (dc tbX2_reasonFor_1_k 31 rfl) ?_
              refine lv_isub hx hb (dc tbX2_reasonFor_1_k 32 rfl) ?_
              obtain ⟨x8_123, e22, hf⟩ := bnd_s hf
              refine lv_ei e22 ?_
              refine lv_istore (lv' := [(8, .int x8_123), (7, .int r20), (6, .int r13), (5, .int y0), (0, .ref (ad k0)), (1, .ref (ad k1)), (2, .int x2), (3, .int x3), (4, .int x4)]) hx hb (dc tbX2_reasonFor_1_k 33 rfl) hl (by decide) rfl (fun ls hl => ?_)
              refine lv_iload hx hb (dc tbX2_reasonFor_1_k 34 rfl) (lv_at hl 1 rfl) ?_
              refine lv_iload hx hb (dc tbX2_reasonFor_1_k 35 rfl) (lv_at hl 0 rfl) ?_
              refine lv_iand hx hb (dc tbX2_reasonFor_1_k 36 rfl) ?_
              refine lv_if_eq (tgt := 135) hx hb (dc tbX2_reasonFor_1_k 37 rfl) rfl (fun c23 => ?_) (fun c23 => ?_)
              · have hf := ite_t c23 hf
                refine lv_iload hx hb (dc tbX2_reasonFor_2_k 0 rfl) (lv_at hl 1 rfl) ?_
                refine lv_if_eq (tgt := 142) hx hb (dc tbX2_reasonFor_2_k 1 rfl) rfl (fun c24 => ?_) (fun c24 => ?_)
                · have hf := ite_t c24 hf
                  refine lv_aload_n hx hb (dc tbX2_reasonFor_2_k 4 rfl) rfl (lv_at hl 4 rfl) ?_
                  obtain ⟨r26, q25, hf⟩ := cap_s hf
                  refine g_callVi hx hb hml hown hts hK hap hsx hI (tX2_crossesItself l hk0 q25 H.size) cv_X2_crossesItself q_t3_50 rfl rfl ⟨Nat.le_of_ble_eq_true rfl, Nat.le_of_ble_eq_true rfl⟩ hk0.1 (by simp) rfl rfl rfl hl.1 rfl (Nat.le_of_ble_eq_true rfl) (dc tbX2_reasonFor_2_k 5 rfl) ⟨Nat.le_of_ble_eq_true rfl, Nat.le_of_ble_eq_true rfl⟩ (fun H locs hI => ?_)
                  refine lv_if_eq (tgt := 154) hx hb (dc tbX2_reasonFor_2_k 6 rfl) rfl (fun c28 => ?_) (fun c28 => ?_)
                  · have hf := ite_t c28 hf
                    refine lv_iconst (v := 0) hx hb (dc tbX2_reasonFor_2_k 9 rfl) ic_0 ?_
                    cases hf
                    exact g_iret hx hb hr hlk hI (dc tbX2_reasonFor_2_k 10 rfl)
                  · have hf := ite_f c28 hf
                    refine lv_bipush (v := 6) hx hb (dc tbX2_reasonFor_2_k 7 rfl) bp_6 ?_
                    refine lv_goto (tgt := 155) hx hb (dc tbX2_reasonFor_2_k 8 rfl) rfl ?_
                    cases hf
                    exact g_iret hx hb hr hlk hI (dc tbX2_reasonFor_2_k 10 rfl)
                · have hf := ite_f c24 hf
                  refine lv_iconst (v := 5) hx hb (dc tbX2_reasonFor_2_k 2 rfl) ic_5 ?_
                  cases hf
                  exact g_iret hx hb hr hlk hI (dc tbX2_reasonFor_2_k 3 rfl)
              · have hf := ite_f c23 hf
                refine lv_iconst (v := 4) hx hb (dc tbX2_reasonFor_1_k 38 rfl) ic_4 ?_
                cases hf
                exact g_iret hx hb hr hlk hI (dc tbX2_reasonFor_1_k 39 rfl)
            · have hf := ite_f c18 hf
              refine lv_iconst (v := 3) hx hb (dc tbX2_reasonFor_1_k 18 rfl) ic_3 ?_
              cases hf
              exact g_iret hx hb hr hlk hI (dc tbX2_reasonFor_1_k 19 rfl)
        · have hf := ite_f c8 hf
          refine lv_iconst (v := 2) hx hb (dc tbX2_reasonFor_0_k 36 rfl) ic_2 ?_
          cases hf
          exact g_iret hx hb hr hlk hI (dc tbX2_reasonFor_0_k 37 rfl)
  · have hf := ite_f c3 hf
    refine lv_iconst (v := 1) hx hb (dc tbX2_reasonFor_0_k 20 rfl) ic_1 ?_
    cases hf
    exact g_iret hx hb hr hlk hI (dc tbX2_reasonFor_0_k 21 rfl)
def mX2_reasonFor (k0 : Nat) (k1 : Nat) (x2 : Int32) (x3 : Int32) (M : Mem) : Option (Mem × Int32) := bnd ((x3 >>> ((1 : Int32) &&& 31))) (fun x4_3 => ite2 ((x3 &&& (1 : Int32)) = 0) (mX2_reasonFor_b20 k0 k1 x2 x3 x4_3 (x4_3 + (1 : Int32)) M) (mX2_reasonFor_b20 k0 k1 x2 x3 x4_3 x4_3 M))
set_option maxHeartbeats 4000000 in
set_option maxRecDepth 100000 in
theorem tX2_reasonFor (l : Launch) {G : GT} {kd : Nat → Nat × Nat} {ad : Nat → Nat} {k0 : Nat} {k1 : Nat} (hk0 : kPlaces kd k0) (hk1 : kPart kd k1) {x2 : Int32} {x3 : Int32} {M : Mem} {MO : Mem} {vo : Int32} (hf : mX2_reasonFor k0 k1 x2 x3 M = some (MO, vo)) (n : Nat) : Met l yX2_reasonFor (Cond.code yX2_reasonFor cX2_reasonFor 9 (some .int) :: WA) (rmO 2 0 0) (Pg G kd ad n [.ref (ad k0), .ref (ad k1), .int x2, .int x3] M) (Qg G kd ad n MO (some (.int vo))) 0 0 (AS kd ad n) := by
  refine g_body (own := RX2) (by decide) rfl ?_ (Nat.le_of_ble_eq_true rfl)
  intro p e s m args below meth c C _ H locs ls hI hl
  obtain ⟨hx, hb, hml, hr, hown, hts, hlk, hK, hap, hsx⟩ := id C
  have hl : lv_has ls 9 [(0, .ref (ad k0)), (1, .ref (ad k1)), (2, .int x2), (3, .int x3)] := hl
  unfold mX2_reasonFor at hf
  refine lv_iload_n hx hb (dc tbX2_reasonFor_0_k 0 rfl) rfl (lv_at hl 3 rfl) ?_
  refine lv_iconst (v := 1) hx hb (dc tbX2_reasonFor_0_k 1 rfl) ic_1 ?_
  refine lv_ishr hx hb (dc tbX2_reasonFor_0_k 2 rfl) ?_
  obtain ⟨x4_3, e1, hf⟩ := bnd_s hf
  refine lv_ei e1 ?_
  refine lv_istore (lv' := [(4, .int x4_3), (0, .ref (ad k0)), (1, .ref (ad k1)), (2, .int x2), (3, .int x3)]) hx hb (dc tbX2_reasonFor_0_k 3 rfl) hl (by decide) rfl (fun ls hl => ?_)
  refine lv_iload_n hx hb (dc tbX2_reasonFor_0_k 4 rfl) rfl (lv_at hl 4 rfl) ?_
  refine lv_iconst (v := 1) hx hb (dc tbX2_reasonFor_0_k 5 rfl) ic_1 ?_
  refine lv_iand hx hb (dc tbX2_reasonFor_0_k 6 rfl) ?_
  refine lv_if_ne (tgt := 18) hx hb (dc tbX2_reasonFor_0_k 7 rfl) rfl (fun c2 => ?_) (fun c2 => ?_)
  · have hf := ite_f c2 hf
    refine lv_iload hx hb (dc tbX2_reasonFor_0_k 12 rfl) (lv_at hl 0 rfl) ?_
    exact tX2_reasonFor_b20 C hk0 hk1 x2 x3 x4_3 x4_3 M hf _ _ _ hI (lv_sub hl [1, 2, 3, 4, 0] rfl)
  · have hf := ite_t c2 hf
    refine lv_iload hx hb (dc tbX2_reasonFor_0_k 8 rfl) (lv_at hl 0 rfl) ?_
    refine lv_iconst (v := 1) hx hb (dc tbX2_reasonFor_0_k 9 rfl) ic_1 ?_
    refine lv_iadd hx hb (dc tbX2_reasonFor_0_k 10 rfl) ?_
    refine lv_goto (tgt := 20) hx hb (dc tbX2_reasonFor_0_k 11 rfl) rfl ?_
    exact tX2_reasonFor_b20 C hk0 hk1 x2 x3 x4_3 (x4_3 + (1 : Int32)) M hf _ _ _ hI (lv_sub hl [1, 2, 3, 4, 0] rfl)
theorem cv_X2_reasonFor : cvF RX2 yX2_reasonFor cX2_reasonFor 9 (some .int) 3 := ⟨q_t3_26, q_t3_27, q_t1_5, q_t3_28, by decide +kernel⟩
def mX2_possibleSteps_b34 (k0 : Nat) (k1 : Nat) (ih5 : Int32 → Int32 → Int32 → Mem → Option (Mem × Int32)) (x2 : Int32) (x3 : Int32) (x4 : Int32) (M : Mem) : Option (Mem × Int32) := bnd (x4 + (1 : Int32)) (fun x4_34 => ih5 x2 x3 x4_34 M)
set_option maxHeartbeats 4000000 in
set_option maxRecDepth 100000 in
theorem tX2_possibleSteps_b34 {p : Program} {l : Launch} {e : Env} {s : State} {m : MethodId} {args : Array Value} {below : List Frame} {meth : Method} {c : Code} {G : GT} {kd : Nat → Nat × Nat} {ad : Nat → Nat} (C : Cx p s m args meth c cX2_possibleSteps 5 (some .int) RX2 G kd ad) {k0 : Nat} {k1 : Nat} (hk0 : kPlaces kd k0) (hk1 : kPart kd k1) {MO : Mem} {vo : Int32} {ih5 : Int32 → Int32 → Int32 → Mem → Option (Mem × Int32)} (hih5 : ∀ (x2 : Int32) (x3 : Int32) (x4 : Int32) (M : Mem), ih5 x2 x3 x4 M = some (MO, vo) → At p l e (rmO 3 0 0) s m args below meth c 0 0 (MQ below (Qg G kd ad s.heap.size MO (some (.int vo))) args s 0 0 (AS kd ad s.heap.size)) G kd ad 5 5 [(0, .ref (ad k0)), (1, .ref (ad k1)), (2, .int x2), (3, .int x3), (4, .int x4)] [] M) : ∀ (x2 : Int32) (x3 : Int32) (x4 : Int32) (M : Mem), mX2_possibleSteps_b34 k0 k1 ih5 x2 x3 x4 M = some (MO, vo) → At p l e (rmO 3 0 0) s m args below meth c 0 0 (MQ below (Qg G kd ad s.heap.size MO (some (.int vo))) args s 0 0 (AS kd ad s.heap.size)) G kd ad 5 34 [(0, .ref (ad k0)), (1, .ref (ad k1)), (2, .int x2), (3, .int x3), (4, .int x4)] [] M := by
  intro x2 x3 x4 M hf H locs ls hI hl
  obtain ⟨hx, hb, hml, hr, hown, hts, hlk, hK, hap, hsx⟩ := id C
  unfold mX2_possibleSteps_b34 at hf
  obtain ⟨x4_34, e9, hf⟩ := bnd_s hf
  refine lv_iinc (v := x4_34) (lv' := [(4, .int x4_34), (0, .ref (ad k0)), (1, .ref (ad k1)), (2, .int x2), (3, .int x3)]) hx hb (dc tbX2_possibleSteps_k 22 rfl) hl (k := 4) rfl (ii_e e9 ic_1) (by decide) rfl (fun ls hl => ?_)
  refine lv_goto (tgt := 5) hx hb (dc tbX2_possibleSteps_k 23 rfl) rfl ?_
  exact hih5 x2 x3 x4_34 M hf _ _ _ hI (lv_sub hl [1, 2, 3, 4, 0] rfl)
def mX2_possibleSteps_b5 (k0 : Nat) (k1 : Nat) (ih5 : Int32 → Int32 → Int32 → Mem → Option (Mem × Int32)) (x2 : Int32) (x3 : Int32) (x4 : Int32) (M : Mem) : Option (Mem × Int32) := cap (mX1_bendCount k1 M) (fun r2 => ite2 (((2 : Int32) * r2) ≤ x4) (some (M, x3)) (cal (mX2_reasonFor k0 k1 x2 x4 M) (fun M7 r6 => ite2 (r6 = 0) (bnd ((x3 ||| ((1 : Int32) <<< (x4 &&& 31)))) (fun x3_33 => mX2_possibleSteps_b34 k0 k1 ih5 x2 x3_33 x4 M7)) (mX2_possibleSteps_b34 k0 k1 ih5 x2 x3 x4 M7))))
set_option maxHeartbeats 4000000 in
set_option maxRecDepth 100000 in
theorem tX2_possibleSteps_b5 {p : Program} {l : Launch} {e : Env} {s : State} {m : MethodId} {args : Array Value} {below : List Frame} {meth : Method} {c : Code} {G : GT} {kd : Nat → Nat × Nat} {ad : Nat → Nat} (C : Cx p s m args meth c cX2_possibleSteps 5 (some .int) RX2 G kd ad) {k0 : Nat} {k1 : Nat} (hk0 : kPlaces kd k0) (hk1 : kPart kd k1) {MO : Mem} {vo : Int32} {ih5 : Int32 → Int32 → Int32 → Mem → Option (Mem × Int32)} (hih5 : ∀ (x2 : Int32) (x3 : Int32) (x4 : Int32) (M : Mem), ih5 x2 x3 x4 M = some (MO, vo) → At p l e (rmO 3 0 0) s m args below meth c 0 0 (MQ below (Qg G kd ad s.heap.size MO (some (.int vo))) args s 0 0 (AS kd ad s.heap.size)) G kd ad 5 5 [(0, .ref (ad k0)), (1, .ref (ad k1)), (2, .int x2), (3, .int x3), (4, .int x4)] [] M) : ∀ (x2 : Int32) (x3 : Int32) (x4 : Int32) (M : Mem), mX2_possibleSteps_b5 k0 k1 ih5 x2 x3 x4 M = some (MO, vo) → At p l e (rmO 3 0 0) s m args below meth c 0 0 (MQ below (Qg G kd ad s.heap.size MO (some (.int vo))) args s 0 0 (AS kd ad s.heap.size)) G kd ad 5 5 [(0, .ref (ad k0)), (1, .ref (ad k1)), (2, .int x2), (3, .int x3), (4, .int x4)] [] M := by
  intro x2 x3 x4 M hf H locs ls hI hl
  obtain ⟨hx, hb, hml, hr, hown, hts, hlk, hK, hap, hsx⟩ := id C
  unfold mX2_possibleSteps_b5 at hf
  refine lv_iload hx hb (dc tbX2_possibleSteps_k 4 rfl) (lv_at hl 4 rfl) ?_
  refine lv_iconst (v := 2) hx hb (dc tbX2_possibleSteps_k 5 rfl) ic_2 ?_
  refine lv_aload_n hx hb (dc tbX2_possibleSteps_k 6 rfl) rfl (lv_at hl 1 rfl) ?_
  obtain ⟨r2, q1, hf⟩ := cap_s hf
  refine g_callVi hx hb hml hown hts hK hap hsx hI (tX1_bendCount l hk1 q1 H.size) cv_X1_bendCount q_t3_24 rfl rfl ⟨Nat.le_of_ble_eq_true rfl, Nat.le_of_ble_eq_true rfl⟩ hk1.1 (by simp) rfl rfl rfl hl.1 rfl (Nat.le_of_ble_eq_true rfl) (dc tbX2_possibleSteps_k 7 rfl) ⟨Nat.le_of_ble_eq_true rfl, Nat.le_of_ble_eq_true rfl⟩ (fun H locs hI => ?_)
  refine lv_imul hx hb (dc tbX2_possibleSteps_k 8 rfl) ?_
  refine lv_icmp_ge (tgt := 40) hx hb (dc tbX2_possibleSteps_k 9 rfl) rfl (fun c4 => ?_) (fun c4 => ?_)
  · have hf := ite_t c4 hf
    refine lv_iload_n hx hb (dc tbX2_possibleSteps_k 24 rfl) rfl (lv_at hl 3 rfl) ?_
    cases hf
    exact g_iret hx hb hr hlk hI (dc tbX2_possibleSteps_k 25 rfl)
  · have hf := ite_f c4 hf
    refine lv_aload_n hx hb (dc tbX2_possibleSteps_k 10 rfl) rfl (lv_at hl 0 rfl) ?_
    refine lv_aload_n hx hb (dc tbX2_possibleSteps_k 11 rfl) rfl (lv_at hl 1 rfl) ?_
    refine lv_iload_n hx hb (dc tbX2_possibleSteps_k 12 rfl) rfl (lv_at hl 2 rfl) ?_
    refine lv_iload hx hb (dc tbX2_possibleSteps_k 13 rfl) (lv_at hl 4 rfl) ?_
    obtain ⟨M7, r6, q5, hf⟩ := cal_s hf
    refine g_callVi hx hb hml hown hts hK hap hsx hI (tX2_reasonFor l hk0 hk1 q5 H.size) cv_X2_reasonFor q_t3_25 rfl rfl ⟨Nat.le_of_ble_eq_true rfl, Nat.le_of_ble_eq_true rfl⟩ hk0.1 (by simp) rfl rfl rfl hl.1 rfl (Nat.le_of_ble_eq_true rfl) (dc tbX2_possibleSteps_k 14 rfl) ⟨Nat.le_of_ble_eq_true rfl, Nat.le_of_ble_eq_true rfl⟩ (fun H locs hI => ?_)
    refine lv_if_ne (tgt := 34) hx hb (dc tbX2_possibleSteps_k 15 rfl) rfl (fun c8 => ?_) (fun c8 => ?_)
    · have hf := ite_f c8 hf
      exact tX2_possibleSteps_b34 C hk0 hk1 hih5 x2 x3 x4 M7 hf _ _ _ hI (lv_sub hl [0, 1, 2, 3, 4] rfl)
    · have hf := ite_t c8 hf
      refine lv_iload_n hx hb (dc tbX2_possibleSteps_k 16 rfl) rfl (lv_at hl 3 rfl) ?_
      refine lv_iconst (v := 1) hx hb (dc tbX2_possibleSteps_k 17 rfl) ic_1 ?_
      refine lv_iload hx hb (dc tbX2_possibleSteps_k 18 rfl) (lv_at hl 4 rfl) ?_
      refine lv_ishl hx hb (dc tbX2_possibleSteps_k 19 rfl) ?_
      refine lv_ior hx hb (dc tbX2_possibleSteps_k 20 rfl) ?_
      obtain ⟨x3_33, e10, hf⟩ := bnd_s hf
      refine lv_ei e10 ?_
      refine lv_istore_n (lv' := [(3, .int x3_33), (0, .ref (ad k0)), (1, .ref (ad k1)), (2, .int x2), (4, .int x4)]) hx hb (dc tbX2_possibleSteps_k 21 rfl) rfl hl (by decide) rfl (fun ls hl => ?_)
      exact tX2_possibleSteps_b34 C hk0 hk1 hih5 x2 x3_33 x4 M7 hf _ _ _ hI (lv_sub hl [1, 2, 3, 0, 4] rfl)
def mX2_possibleSteps_l5 (k0 : Nat) (k1 : Nat) : Nat → Int32 → Int32 → Int32 → Mem → Option (Mem × Int32)
  | 0 => fun _ _ _ _ => none
  | n + 1 => mX2_possibleSteps_b5 k0 k1 (mX2_possibleSteps_l5 k0 k1 n)
theorem tX2_possibleSteps_l5 {p : Program} {l : Launch} {e : Env} {s : State} {m : MethodId} {args : Array Value} {below : List Frame} {meth : Method} {c : Code} {G : GT} {kd : Nat → Nat × Nat} {ad : Nat → Nat} (C : Cx p s m args meth c cX2_possibleSteps 5 (some .int) RX2 G kd ad) {k0 : Nat} {k1 : Nat} (hk0 : kPlaces kd k0) (hk1 : kPart kd k1) {MO : Mem} {vo : Int32}   : ∀ (fuel : Nat) (x2 : Int32) (x3 : Int32) (x4 : Int32) (M : Mem), mX2_possibleSteps_l5 k0 k1 fuel x2 x3 x4 M = some (MO, vo) → At p l e (rmO 3 0 0) s m args below meth c 0 0 (MQ below (Qg G kd ad s.heap.size MO (some (.int vo))) args s 0 0 (AS kd ad s.heap.size)) G kd ad 5 5 [(0, .ref (ad k0)), (1, .ref (ad k1)), (2, .int x2), (3, .int x3), (4, .int x4)] [] M := by
  intro fuel
  induction fuel with
  | zero => intro x2 x3 x4 M hf; cases hf
  | succ n IH => exact tX2_possibleSteps_b5 C hk0 hk1 IH
def mX2_possibleSteps (k0 : Nat) (k1 : Nat) (x2 : Int32) (M : Mem) : Option (Mem × Int32) := mX2_possibleSteps_l5 k0 k1 5000 x2 (0 : Int32) (0 : Int32) M
set_option maxHeartbeats 4000000 in
set_option maxRecDepth 100000 in
theorem tX2_possibleSteps (l : Launch) {G : GT} {kd : Nat → Nat × Nat} {ad : Nat → Nat} {k0 : Nat} {k1 : Nat} (hk0 : kPlaces kd k0) (hk1 : kPart kd k1) {x2 : Int32} {M : Mem} {MO : Mem} {vo : Int32} (hf : mX2_possibleSteps k0 k1 x2 M = some (MO, vo)) (n : Nat) : Met l yX2_possibleSteps (Cond.code yX2_possibleSteps cX2_possibleSteps 5 (some .int) :: WA) (rmO 3 0 0) (Pg G kd ad n [.ref (ad k0), .ref (ad k1), .int x2] M) (Qg G kd ad n MO (some (.int vo))) 0 0 (AS kd ad n) := by
  refine g_body (own := RX2) (by decide) rfl ?_ (Nat.le_of_ble_eq_true rfl)
  intro p e s m args below meth c C _ H locs ls hI hl
  obtain ⟨hx, hb, hml, hr, hown, hts, hlk, hK, hap, hsx⟩ := id C
  have hl : lv_has ls 5 [(0, .ref (ad k0)), (1, .ref (ad k1)), (2, .int x2)] := hl
  unfold mX2_possibleSteps at hf
  refine lv_iconst (v := 0) hx hb (dc tbX2_possibleSteps_k 0 rfl) ic_0 ?_
  refine lv_istore_n (lv' := [(3, .int (0 : Int32)), (0, .ref (ad k0)), (1, .ref (ad k1)), (2, .int x2)]) hx hb (dc tbX2_possibleSteps_k 1 rfl) rfl hl (by decide) rfl (fun ls hl => ?_)
  refine lv_iconst (v := 0) hx hb (dc tbX2_possibleSteps_k 2 rfl) ic_0 ?_
  refine lv_istore (lv' := [(4, .int (0 : Int32)), (3, .int (0 : Int32)), (0, .ref (ad k0)), (1, .ref (ad k1)), (2, .int x2)]) hx hb (dc tbX2_possibleSteps_k 3 rfl) hl (by decide) rfl (fun ls hl => ?_)
  exact tX2_possibleSteps_l5 C hk0 hk1 5000 x2 (0 : Int32) (0 : Int32) M hf _ _ _ hI (lv_sub hl [2, 3, 4, 1, 0] rfl)
theorem cv_X2_possibleSteps : cvF RX2 yX2_possibleSteps cX2_possibleSteps 5 (some .int) 2 := ⟨q_t3_21, q_t3_22, q_t1_5, q_t3_23, by decide +kernel⟩
end
/-! part 22.cJ -/
section
def mJ6_bitCount_0f7a4 (x0 : Int32) (M : Mem) : Option Int32 := bnd ((x0 - (((x0).toUInt32 >>> (((1 : Int32)).toUInt32 &&& Int32.toUInt32 31)).toInt32 &&& (1431655765 : Int32)))) (fun x0_9 => bnd (((x0_9 &&& (858993459 : Int32)) + (((x0_9).toUInt32 >>> (((2 : Int32)).toUInt32 &&& Int32.toUInt32 31)).toInt32 &&& (858993459 : Int32)))) (fun x0_23 => bnd (((x0_23 + ((x0_23).toUInt32 >>> (((4 : Int32)).toUInt32 &&& Int32.toUInt32 31)).toInt32) &&& (252645135 : Int32))) (fun x0_33 => bnd ((x0_33 + ((x0_33).toUInt32 >>> (((8 : Int32)).toUInt32 &&& Int32.toUInt32 31)).toInt32)) (fun x0_40 => bnd ((x0_40 + ((x0_40).toUInt32 >>> (((16 : Int32)).toUInt32 &&& Int32.toUInt32 31)).toInt32)) (fun x0_47 => some (x0_47 &&& (63 : Int32)))))))
set_option maxHeartbeats 4000000 in
set_option maxRecDepth 100000 in
theorem tJ6_bitCount_0f7a4 (l : Launch) {G : GT} {kd : Nat → Nat × Nat} {ad : Nat → Nat}  {x0 : Int32} {M : Mem} {vo : Int32} (hf : mJ6_bitCount_0f7a4  x0 M = some vo) (n : Nat) : Met l yJ6_bitCount_0f7a4 (Cond.code yJ6_bitCount_0f7a4 cJ6_bitCount_0f7a4 1 (some .int) :: WA) (rmO 0 0 0) (Pg G kd ad n [.int x0] M) (Qg G kd ad n M (some (.int vo))) 0 0 (AS kd ad n) := by
  refine g_body (own := RJ6) (by decide) rfl ?_ (Nat.le_of_ble_eq_true rfl)
  intro p e s m args below meth c C _ H locs ls hI hl
  obtain ⟨hx, hb, hml, hr, hown, hts, hlk, hK, hap, hsx⟩ := id C
  have hl : lv_has ls 1 [(0, .int x0)] := hl
  unfold mJ6_bitCount_0f7a4 at hf
  refine lv_iload_n hx hb (dc tbJ6_bitCount_0f7a4_0_k 0 rfl) rfl (lv_at hl 0 rfl) ?_
  refine lv_iload_n hx hb (dc tbJ6_bitCount_0f7a4_0_k 1 rfl) rfl (lv_at hl 0 rfl) ?_
  refine lv_iconst (v := 1) hx hb (dc tbJ6_bitCount_0f7a4_0_k 2 rfl) ic_1 ?_
  refine lv_iushr hx hb (dc tbJ6_bitCount_0f7a4_0_k 3 rfl) rfl ?_
  refine lv_ldcw hx hb hown (hts _ q_t3_174) (dc tbJ6_bitCount_0f7a4_0_k 4 rfl) ?_
  refine lv_iand hx hb (dc tbJ6_bitCount_0f7a4_0_k 5 rfl) ?_
  refine lv_isub hx hb (dc tbJ6_bitCount_0f7a4_0_k 6 rfl) ?_
  obtain ⟨x0_9, e1, hf⟩ := bnd_s hf
  refine lv_ei e1 ?_
  refine lv_istore_n (lv' := [(0, .int x0_9)]) hx hb (dc tbJ6_bitCount_0f7a4_0_k 7 rfl) rfl hl (by decide) rfl (fun ls hl => ?_)
  refine lv_iload_n hx hb (dc tbJ6_bitCount_0f7a4_0_k 8 rfl) rfl (lv_at hl 0 rfl) ?_
  refine lv_ldcw hx hb hown (hts _ q_t3_175) (dc tbJ6_bitCount_0f7a4_0_k 9 rfl) ?_
  refine lv_iand hx hb (dc tbJ6_bitCount_0f7a4_0_k 10 rfl) ?_
  refine lv_iload_n hx hb (dc tbJ6_bitCount_0f7a4_0_k 11 rfl) rfl (lv_at hl 0 rfl) ?_
  refine lv_iconst (v := 2) hx hb (dc tbJ6_bitCount_0f7a4_0_k 12 rfl) ic_2 ?_
  refine lv_iushr hx hb (dc tbJ6_bitCount_0f7a4_0_k 13 rfl) rfl ?_
  refine lv_ldcw hx hb hown (hts _ q_t3_175) (dc tbJ6_bitCount_0f7a4_0_k 14 rfl) ?_
  refine lv_iand hx hb (dc tbJ6_bitCount_0f7a4_0_k 15 rfl) ?_
  refine lv_iadd hx hb (dc tbJ6_bitCount_0f7a4_0_k 16 rfl) ?_
  obtain ⟨x0_23, e2, hf⟩ := bnd_s hf
  refine lv_ei e2 ?_
  refine lv_istore_n (lv' := [(0, .int x0_23)]) hx hb (dc tbJ6_bitCount_0f7a4_0_k 17 rfl) rfl hl (by decide) rfl (fun ls hl => ?_)
  refine lv_iload_n hx hb (dc tbJ6_bitCount_0f7a4_0_k 18 rfl) rfl (lv_at hl 0 rfl) ?_
  refine lv_iload_n hx hb (dc tbJ6_bitCount_0f7a4_0_k 19 rfl) rfl (lv_at hl 0 rfl) ?_
  refine lv_iconst (v := 4) hx hb (dc tbJ6_bitCount_0f7a4_0_k 20 rfl) ic_4 ?_
  refine lv_iushr hx hb (dc tbJ6_bitCount_0f7a4_0_k 21 rfl) rfl ?_
  refine lv_iadd hx hb (dc tbJ6_bitCount_0f7a4_0_k 22 rfl) ?_
  refine lv_ldcw hx hb hown (hts _ q_t3_176) (dc tbJ6_bitCount_0f7a4_0_k 23 rfl) ?_
  refine lv_iand hx hb (dc tbJ6_bitCount_0f7a4_0_k 24 rfl) ?_
  obtain ⟨x0_33, e3, hf⟩ := bnd_s hf
  refine lv_ei e3 ?_
  refine lv_istore_n (lv' := [(0, .int x0_33)]) hx hb (dc tbJ6_bitCount_0f7a4_0_k 25 rfl) rfl hl (by decide) rfl (fun ls hl => ?_)
  refine lv_iload_n hx hb (dc tbJ6_bitCount_0f7a4_0_k 26 rfl) rfl (lv_at hl 0 rfl) ?_
  refine lv_iload_n hx hb (dc tbJ6_bitCount_0f7a4_0_k 27 rfl) rfl (lv_at hl 0 rfl) ?_
  refine lv_bipush (v := 8) hx hb (dc tbJ6_bitCount_0f7a4_0_k 28 rfl) bp_8 ?_
  refine lv_iushr hx hb (dc tbJ6_bitCount_0f7a4_0_k 29 rfl) rfl ?_
  refine lv_iadd hx hb (dc tbJ6_bitCount_0f7a4_0_k 30 rfl) ?_
  obtain ⟨x0_40, e4, hf⟩ := bnd_s hf
  refine lv_ei e4 ?_
  refine lv_istore_n (lv' := [(0, .int x0_40)]) hx hb (dc tbJ6_bitCount_0f7a4_0_k 31 rfl) rfl hl (by decide) rfl (fun ls hl => ?_)
  refine lv_iload_n hx hb (dc tbJ6_bitCount_0f7a4_0_k 32 rfl) rfl (lv_at hl 0 rfl) ?_
  refine lv_iload_n hx hb (dc tbJ6_bitCount_0f7a4_0_k 33 rfl) rfl (lv_at hl 0 rfl) ?_
  refine lv_bipush (v := 16) hx hb (dc tbJ6_bitCount_0f7a4_0_k 34 rfl) bp_16 ?_
  refine lv_iushr hx hb (dc tbJ6_bitCount_0f7a4_0_k 35 rfl) rfl ?_
  refine lv_iadd hx hb (dc tbJ6_bitCount_0f7a4_0_k 36 rfl) ?_
  obtain ⟨x0_47, e5, hf⟩ := bnd_s hf
  refine lv_ei e5 ?_
  refine lv_istore_n (lv' := [(0, .int x0_47)]) hx hb (dc tbJ6_bitCount_0f7a4_0_k 37 rfl) rfl hl (by decide) rfl (fun ls hl => ?_)
  refine lv_iload_n hx hb (dc tbJ6_bitCount_0f7a4_0_k 38 rfl) rfl (lv_at hl 0 rfl) ?_
  refine lv_bipush (v := 63) hx hb (dc tbJ6_bitCount_0f7a4_0_k 39 rfl) bp_63 ?_
  refine lv_iand hx hb (dc tbJ6_bitCount_0f7a4_1_k 0 rfl) ?_
  cases hf
  exact g_iret hx hb hr hlk hI (dc tbJ6_bitCount_0f7a4_1_k 1 rfl)
theorem cs_J6_bitCount_0f7a4 : csF yJ6_bitCount_0f7a4 cJ6_bitCount_0f7a4 1 (some .int) 1 := ⟨q_t3_172, q_t1_23, q_t3_173, by decide +kernel⟩
end
/-! part 23.c3 -/
section
def mX3_forgetSteps_b2 (k0 : Nat) (ih2 : Int32 → Mem → Option (Mem × Unit)) (x1 : Int32) (M : Mem) : Option (Mem × Unit) := ite2 ((256 : Int32) ≤ x1) (some (M, ())) (chk (okb x1 256) (bnd (wr M (k0 + 17) (x1).toNatClampNeg (-1 : Int32)) (fun M4 => bnd (x1 + (1 : Int32)) (fun x1_16 => ih2 x1_16 M4))))
set_option maxHeartbeats 4000000 in
set_option maxRecDepth 100000 in
theorem tX3_forgetSteps_b2 {p : Program} {l : Launch} {e : Env} {s : State} {m : MethodId} {args : Array Value} {below : List Frame} {meth : Method} {c : Code} {G : GT} {kd : Nat → Nat × Nat} {ad : Nat → Nat} (C : Cx p s m args meth c cX3_forgetSteps 2 none RX3 G kd ad) {k0 : Nat} (hk0 : kPlanner kd k0) {MO : Mem} {vo : Unit} {ih2 : Int32 → Mem → Option (Mem × Unit)} (hih2 : ∀ (x1 : Int32) (M : Mem), ih2 x1 M = some (MO, vo) → At p l e (rmO 0 0 0) s m args below meth c 0 0 (MQ below (Qg G kd ad s.heap.size MO none) args s 0 0 (AS kd ad s.heap.size)) G kd ad 2 2 [(0, .ref (ad k0)), (1, .int x1)] [] M) : ∀ (x1 : Int32) (M : Mem), mX3_forgetSteps_b2 k0 ih2 x1 M = some (MO, vo) → At p l e (rmO 0 0 0) s m args below meth c 0 0 (MQ below (Qg G kd ad s.heap.size MO none) args s 0 0 (AS kd ad s.heap.size)) G kd ad 2 2 [(0, .ref (ad k0)), (1, .int x1)] [] M := by
  intro x1 M hf H locs ls hI hl
  obtain ⟨hx, hb, hml, hr, hown, hts, hlk, hK, hap, hsx⟩ := id C
  unfold mX3_forgetSteps_b2 at hf
  refine lv_iload_n hx hb (dc tbX3_forgetSteps_k 2 rfl) rfl (lv_at hl 1 rfl) ?_
  refine lv_sipush (v := 256) hx hb (dc tbX3_forgetSteps_k 3 rfl) sp_256 ?_
  refine lv_icmp_ge (tgt := 22) hx hb (dc tbX3_forgetSteps_k 4 rfl) rfl (fun c1 => ?_) (fun c1 => ?_)
  · have hf := ite_t c1 hf
    cases hf
    exact g_vret hx hb hr hlk hI (dc tbX3_forgetSteps_k 12 rfl)
  · have hf := ite_f c1 hf
    refine lv_aload_n hx hb (dc tbX3_forgetSteps_k 5 rfl) rfl (lv_at hl 0 rfl) ?_
    refine gg3_7 hx hb hts hown hK hI hk0.1 q_t2_15 (dc tbX3_forgetSteps_k 6 rfl) ?_
    refine lv_iload_n hx hb (dc tbX3_forgetSteps_k 7 rfl) rfl (lv_at hl 1 rfl) ?_
    refine lv_iconst (v := -1) hx hb (dc tbX3_forgetSteps_k 8 rfl) ic_m1 ?_
    obtain ⟨h2, hf⟩ := chk_s hf
    obtain ⟨M4, e3, hf⟩ := bnd_s hf
    refine g_iast hx hb hK hap hI hk0.2.2.2.2.1 (okb_in h2) (dc tbX3_forgetSteps_k 9 rfl) e3 (fun H locs hI => ?_)
    obtain ⟨x1_16, e5, hf⟩ := bnd_s hf
    refine lv_iinc (v := x1_16) (lv' := [(1, .int x1_16), (0, .ref (ad k0))]) hx hb (dc tbX3_forgetSteps_k 10 rfl) hl (k := 1) rfl (ii_e e5 ic_1) (by decide) rfl (fun ls hl => ?_)
    refine lv_goto (tgt := 2) hx hb (dc tbX3_forgetSteps_k 11 rfl) rfl ?_
    exact hih2 x1_16 M4 hf _ _ _ hI (lv_sub hl [1, 0] rfl)
def mX3_forgetSteps_l2 (k0 : Nat) : Nat → Int32 → Mem → Option (Mem × Unit)
  | 0 => fun _ _ => none
  | n + 1 => mX3_forgetSteps_b2 k0 (mX3_forgetSteps_l2 k0 n)
theorem tX3_forgetSteps_l2 {p : Program} {l : Launch} {e : Env} {s : State} {m : MethodId} {args : Array Value} {below : List Frame} {meth : Method} {c : Code} {G : GT} {kd : Nat → Nat × Nat} {ad : Nat → Nat} (C : Cx p s m args meth c cX3_forgetSteps 2 none RX3 G kd ad) {k0 : Nat} (hk0 : kPlanner kd k0) {MO : Mem} {vo : Unit}   : ∀ (fuel : Nat) (x1 : Int32) (M : Mem), mX3_forgetSteps_l2 k0 fuel x1 M = some (MO, vo) → At p l e (rmO 0 0 0) s m args below meth c 0 0 (MQ below (Qg G kd ad s.heap.size MO none) args s 0 0 (AS kd ad s.heap.size)) G kd ad 2 2 [(0, .ref (ad k0)), (1, .int x1)] [] M := by
  intro fuel
  induction fuel with
  | zero => intro x1 M hf; cases hf
  | succ n IH => exact tX3_forgetSteps_b2 C hk0 IH
def mX3_forgetSteps (k0 : Nat) (M : Mem) : Option (Mem × Unit) := mX3_forgetSteps_l2 k0 5000 (0 : Int32) M
set_option maxHeartbeats 4000000 in
set_option maxRecDepth 100000 in
theorem tX3_forgetSteps (l : Launch) {G : GT} {kd : Nat → Nat × Nat} {ad : Nat → Nat} {k0 : Nat} (hk0 : kPlanner kd k0) {M : Mem} {MO : Mem} {vo : Unit} (hf : mX3_forgetSteps k0 M = some (MO, vo)) (n : Nat) : Met l yX3_forgetSteps (Cond.code yX3_forgetSteps cX3_forgetSteps 2 none :: WA) (rmO 0 0 0) (Pg G kd ad n [.ref (ad k0)] M) (Qg G kd ad n MO none) 0 0 (AS kd ad n) := by
  refine g_body (own := RX3) (by decide) rfl ?_ (Nat.le_of_ble_eq_true rfl)
  intro p e s m args below meth c C _ H locs ls hI hl
  obtain ⟨hx, hb, hml, hr, hown, hts, hlk, hK, hap, hsx⟩ := id C
  have hl : lv_has ls 2 [(0, .ref (ad k0))] := hl
  unfold mX3_forgetSteps at hf
  refine lv_iconst (v := 0) hx hb (dc tbX3_forgetSteps_k 0 rfl) ic_0 ?_
  refine lv_istore_n (lv' := [(1, .int (0 : Int32)), (0, .ref (ad k0))]) hx hb (dc tbX3_forgetSteps_k 1 rfl) rfl hl (by decide) rfl (fun ls hl => ?_)
  exact tX3_forgetSteps_l2 C hk0 5000 (0 : Int32) M hf _ _ _ hI (lv_sub hl [1, 0] rfl)
theorem cv_X3_forgetSteps : cvF RX3 yX3_forgetSteps cX3_forgetSteps 2 none 0 := ⟨q_t2_2, q_s1_0, q_t1_6, q_t2_3, by decide +kernel⟩
def mX3_findSteps_b63 (k0 : Nat) (k1 : Nat) (ih5 : Int32 → Int32 → Int32 → Mem → Option (Mem × Int32)) (x2 : Int32) (x3 : Int32) (x4 : Int32) (M : Mem) : Option (Mem × Int32) := bnd (x4 + (1 : Int32)) (fun x4_63 => ih5 x2 x3 x4_63 M)
set_option maxHeartbeats 4000000 in
set_option maxRecDepth 100000 in
theorem tX3_findSteps_b63 {p : Program} {l : Launch} {e : Env} {s : State} {m : MethodId} {args : Array Value} {below : List Frame} {meth : Method} {c : Code} {G : GT} {kd : Nat → Nat × Nat} {ad : Nat → Nat} (C : Cx p s m args meth c cX3_findSteps 5 (some .int) RX3 G kd ad) {k0 : Nat} {k1 : Nat} (hk0 : kPlanner kd k0) (hk1 : kPart kd k1) {MO : Mem} {vo : Int32} {ih5 : Int32 → Int32 → Int32 → Mem → Option (Mem × Int32)} (hih5 : ∀ (x2 : Int32) (x3 : Int32) (x4 : Int32) (M : Mem), ih5 x2 x3 x4 M = some (MO, vo) → At p l e (rmO 3 0 0) s m args below meth c 0 0 (MQ below (Qg G kd ad s.heap.size MO (some (.int vo))) args s 0 0 (AS kd ad s.heap.size)) G kd ad 5 5 [(0, .ref (ad k0)), (1, .ref (ad k1)), (2, .int x2), (3, .int x3), (4, .int x4)] [] M) : ∀ (x2 : Int32) (x3 : Int32) (x4 : Int32) (M : Mem), mX3_findSteps_b63 k0 k1 ih5 x2 x3 x4 M = some (MO, vo) → At p l e (rmO 3 0 0) s m args below meth c 0 0 (MQ below (Qg G kd ad s.heap.size MO (some (.int vo))) args s 0 0 (AS kd ad s.heap.size)) G kd ad 5 63 [(0, .ref (ad k0)), (1, .ref (ad k1)), (2, .int x2), (3, .int x3), (4, .int x4)] [] M := by
  intro x2 x3 x4 M hf H locs ls hI hl
  obtain ⟨hx, hb, hml, hr, hown, hts, hlk, hK, hap, hsx⟩ := id C
  unfold mX3_findSteps_b63 at hf
  obtain ⟨x4_63, e10, hf⟩ := bnd_s hf
  refine lv_iinc (v := x4_63) (lv' := [(4, .int x4_63), (0, .ref (ad k0)), (1, .ref (ad k1)), (2, .int x2), (3, .int x3)]) hx hb (dc tbX3_findSteps_0_k 37 rfl) hl (k := 4) rfl (ii_e e10 ic_1) (by decide) rfl (fun ls hl => ?_)
  refine lv_goto (tgt := 5) hx hb (dc tbX3_findSteps_0_k 38 rfl) rfl ?_
  exact hih5 x2 x3 x4_63 M hf _ _ _ hI (lv_sub hl [1, 2, 3, 4, 0] rfl)
def mX3_findSteps_b5 (k0 : Nat) (k1 : Nat) (ih5 : Int32 → Int32 → Int32 → Mem → Option (Mem × Int32)) (x2 : Int32) (x3 : Int32) (x4 : Int32) (M : Mem) : Option (Mem × Int32) := cap (mX1_bendCount k1 M) (fun r2 => ite2 (((2 : Int32) * r2) ≤ x4) (some (M, x3)) (ite2 ((16 : Int32) ≤ x4) (some (M, x3)) (cal (mX2_reasonFor (k0 + 2) k1 x2 x4 M) (fun M8 r7 => ite2 (r7 = 0) (bnd ((x3 ||| ((1 : Int32) <<< (x4 &&& 31)))) (fun x3_43 => cap (mX2_reachToBack (k0 + 2) M8) (fun r13 => chk (okb ((x2 * (16 : Int32)) + x4) 4096) (bnd (wr M8 (k0 + 20) (((x2 * (16 : Int32)) + x4)).toNatClampNeg r13) (fun M17 => mX3_findSteps_b63 k0 k1 ih5 x2 x3_43 x4 M17))))) (mX3_findSteps_b63 k0 k1 ih5 x2 x3 x4 M8)))))
set_option maxHeartbeats 4000000 in
set_option maxRecDepth 100000 in
theorem tX3_findSteps_b5 {p : Program} {l : Launch} {e : Env} {s : State} {m : MethodId} {args : Array Value} {below : List Frame} {meth : Method} {c : Code} {G : GT} {kd : Nat → Nat × Nat} {ad : Nat → Nat} (C : Cx p s m args meth c cX3_findSteps 5 (some .int) RX3 G kd ad) {k0 : Nat} {k1 : Nat} (hk0 : kPlanner kd k0) (hk1 : kPart kd k1) {MO : Mem} {vo : Int32} {ih5 : Int32 → Int32 → Int32 → Mem → Option (Mem × Int32)} (hih5 : ∀ (x2 : Int32) (x3 : Int32) (x4 : Int32) (M : Mem), ih5 x2 x3 x4 M = some (MO, vo) → At p l e (rmO 3 0 0) s m args below meth c 0 0 (MQ below (Qg G kd ad s.heap.size MO (some (.int vo))) args s 0 0 (AS kd ad s.heap.size)) G kd ad 5 5 [(0, .ref (ad k0)), (1, .ref (ad k1)), (2, .int x2), (3, .int x3), (4, .int x4)] [] M) : ∀ (x2 : Int32) (x3 : Int32) (x4 : Int32) (M : Mem), mX3_findSteps_b5 k0 k1 ih5 x2 x3 x4 M = some (MO, vo) → At p l e (rmO 3 0 0) s m args below meth c 0 0 (MQ below (Qg G kd ad s.heap.size MO (some (.int vo))) args s 0 0 (AS kd ad s.heap.size)) G kd ad 5 5 [(0, .ref (ad k0)), (1, .ref (ad k1)), (2, .int x2), (3, .int x3), (4, .int x4)] [] M := by
  intro x2 x3 x4 M hf H locs ls hI hl
  obtain ⟨hx, hb, hml, hr, hown, hts, hlk, hK, hap, hsx⟩ := id C
  unfold mX3_findSteps_b5 at hf
  refine lv_iload hx hb (dc tbX3_findSteps_0_k 4 rfl) (lv_at hl 4 rfl) ?_
  refine lv_iconst (v := 2) hx hb (dc tbX3_findSteps_0_k 5 rfl) ic_2 ?_
  refine lv_aload_n hx hb (dc tbX3_findSteps_0_k 6 rfl) rfl (lv_at hl 1 rfl) ?_
  obtain ⟨r2, q1, hf⟩ := cap_s hf
  refine g_callVi hx hb hml hown hts hK hap hsx hI (tX1_bendCount l hk1 q1 H.size) cv_X1_bendCount q_t3_94 rfl rfl ⟨Nat.le_of_ble_eq_true rfl, Nat.le_of_ble_eq_true rfl⟩ hk1.1 (by simp) rfl rfl rfl hl.1 rfl (Nat.le_of_ble_eq_true rfl) (dc tbX3_findSteps_0_k 7 rfl) ⟨Nat.le_of_ble_eq_true rfl, Nat.le_of_ble_eq_true rfl⟩ (fun H locs hI => ?_)
  refine lv_imul hx hb (dc tbX3_findSteps_0_k 8 rfl) ?_
  refine lv_icmp_ge (tgt := 69) hx hb (dc tbX3_findSteps_0_k 9 rfl) rfl (fun c4 => ?_) (fun c4 => ?_)
  · have hf := ite_t c4 hf
    refine lv_iload_n hx hb (dc tbX3_findSteps_0_k 39 rfl) rfl (lv_at hl 3 rfl) ?_
    cases hf
    exact g_iret hx hb hr hlk hI (dc tbX3_findSteps_1_k 0 rfl)
  · have hf := ite_f c4 hf
    refine lv_iload hx hb (dc tbX3_findSteps_0_k 10 rfl) (lv_at hl 4 rfl) ?_
    refine lv_bipush (v := 16) hx hb (dc tbX3_findSteps_0_k 11 rfl) bp_16 ?_
    refine lv_icmp_ge (tgt := 69) hx hb (dc tbX3_findSteps_0_k 12 rfl) rfl (fun c5 => ?_) (fun c5 => ?_)
    · have hf := ite_t c5 hf
      refine lv_iload_n hx hb (dc tbX3_findSteps_0_k 39 rfl) rfl (lv_at hl 3 rfl) ?_
      cases hf
      exact g_iret hx hb hr hlk hI (dc tbX3_findSteps_1_k 0 rfl)
    · have hf := ite_f c5 hf
      refine lv_aload_n hx hb (dc tbX3_findSteps_0_k 13 rfl) rfl (lv_at hl 0 rfl) ?_
      refine gg3_4 hx hb hts hown hK hI hk0.1 q_t2_12 (dc tbX3_findSteps_0_k 14 rfl) ?_
      refine lv_aload_n hx hb (dc tbX3_findSteps_0_k 15 rfl) rfl (lv_at hl 1 rfl) ?_
      refine lv_iload_n hx hb (dc tbX3_findSteps_0_k 16 rfl) rfl (lv_at hl 2 rfl) ?_
      refine lv_iload hx hb (dc tbX3_findSteps_0_k 17 rfl) (lv_at hl 4 rfl) ?_
      obtain ⟨M8, r7, q6, hf⟩ := cal_s hf
      refine g_callVi hx hb hml hown hts hK hap hsx hI (tX2_reasonFor l hk0.2.2.1 hk1 q6 H.size) cv_X2_reasonFor q_t3_95 rfl rfl ⟨Nat.le_of_ble_eq_true rfl, Nat.le_of_ble_eq_true rfl⟩ hk0.2.2.1.1 (by simp) rfl rfl rfl hl.1 rfl (Nat.le_of_ble_eq_true rfl) (dc tbX3_findSteps_0_k 18 rfl) ⟨Nat.le_of_ble_eq_true rfl, Nat.le_of_ble_eq_true rfl⟩ (fun H locs hI => ?_)
      refine lv_if_ne (tgt := 63) hx hb (dc tbX3_findSteps_0_k 19 rfl) rfl (fun c9 => ?_) (fun c9 => ?_)
      · have hf := ite_f c9 hf
        exact tX3_findSteps_b63 C hk0 hk1 hih5 x2 x3 x4 M8 hf _ _ _ hI (lv_sub hl [0, 1, 2, 3, 4] rfl)
      · have hf := ite_t c9 hf
        refine lv_iload_n hx hb (dc tbX3_findSteps_0_k 20 rfl) rfl (lv_at hl 3 rfl) ?_
        refine lv_iconst (v := 1) hx hb (dc tbX3_findSteps_0_k 21 rfl) ic_1 ?_
        refine lv_iload hx hb (dc tbX3_findSteps_0_k 22 rfl) (lv_at hl 4 rfl) ?_
        refine lv_ishl hx hb (dc tbX3_findSteps_0_k 23 rfl) ?_
        refine lv_ior hx hb (dc tbX3_findSteps_0_k 24 rfl) ?_
        obtain ⟨x3_43, e11, hf⟩ := bnd_s hf
        refine lv_ei e11 ?_
        refine lv_istore_n (lv' := [(3, .int x3_43), (0, .ref (ad k0)), (1, .ref (ad k1)), (2, .int x2), (4, .int x4)]) hx hb (dc tbX3_findSteps_0_k 25 rfl) rfl hl (by decide) rfl (fun ls hl => ?_)
        refine lv_aload_n hx hb (dc tbX3_findSteps_0_k 26 rfl) rfl (lv_at hl 1 rfl) ?_
        refine gg3_10 hx hb hts hown hK hI hk0.1 q_t2_18 (dc tbX3_findSteps_0_k 27 rfl) ?_
        refine lv_iload_n hx hb (dc tbX3_findSteps_0_k 28 rfl) rfl (lv_at hl 3 rfl) ?_
        refine lv_bipush (v := 16) hx hb (dc tbX3_findSteps_0_k 29 rfl) bp_16 ?_
        refine lv_imul hx hb (dc tbX3_findSteps_0_k 30 rfl) ?_
        refine lv_iload hx hb (dc tbX3_findSteps_0_k 31 rfl) (lv_at hl 4 rfl) ?_
        refine lv_iadd hx hb (dc tbX3_findSteps_0_k 32 rfl) ?_
        refine lv_aload_n hx hb (dc tbX3_findSteps_0_k 33 rfl) rfl (lv_at hl 1 rfl) ?_
        refine gg3_4 hx hb hts hown hK hI hk0.1 q_t2_12 (dc tbX3_findSteps_0_k 34 rfl) ?_
        obtain ⟨r13, q12, hf⟩ := cap_s hf
        refine g_callVi hx hb hml hown hts hK hap hsx hI (tX2_reachToBack l hk0.2.2.1 q12 H.size) cv_X2_reachToBack q_t3_96 rfl rfl ⟨Nat.le_of_ble_eq_true rfl, Nat.le_of_ble_eq_true rfl⟩ hk0.2.2.1.1 (by simp) rfl rfl rfl hl.1 rfl (Nat.le_of_ble_eq_true rfl) (dc tbX3_findSteps_0_k 35 rfl) ⟨Nat.le_of_ble_eq_true rfl, Nat.le_of_ble_eq_true rfl⟩ (fun H locs hI => ?_)
        obtain ⟨h15, hf⟩ := chk_s hf
        obtain ⟨M17, e16, hf⟩ := bnd_s hf
        refine g_iast hx hb hK hap hI hk0.2.2.2.2.2.2.2.1 (okb_in h15) (dc tbX3_findSteps_0_k 36 rfl) e16 (fun H locs hI => ?_)
        exact tX3_findSteps_b63 C hk0 hk1 hih5 x2 x3_43 x4 M17 hf _ _ _ hI (lv_sub hl [1, 2, 3, 0, 4] rfl)
def mX3_findSteps_l5 (k0 : Nat) (k1 : Nat) : Nat → Int32 → Int32 → Int32 → Mem → Option (Mem × Int32)
  | 0 => fun _ _ _ _ => none
  | n + 1 => mX3_findSteps_b5 k0 k1 (mX3_findSteps_l5 k0 k1 n)
theorem tX3_findSteps_l5 {p : Program} {l : Launch} {e : Env} {s : State} {m : MethodId} {args : Array Value} {below : List Frame} {meth : Method} {c : Code} {G : GT} {kd : Nat → Nat × Nat} {ad : Nat → Nat} (C : Cx p s m args meth c cX3_findSteps 5 (some .int) RX3 G kd ad) {k0 : Nat} {k1 : Nat} (hk0 : kPlanner kd k0) (hk1 : kPart kd k1) {MO : Mem} {vo : Int32}   : ∀ (fuel : Nat) (x2 : Int32) (x3 : Int32) (x4 : Int32) (M : Mem), mX3_findSteps_l5 k0 k1 fuel x2 x3 x4 M = some (MO, vo) → At p l e (rmO 3 0 0) s m args below meth c 0 0 (MQ below (Qg G kd ad s.heap.size MO (some (.int vo))) args s 0 0 (AS kd ad s.heap.size)) G kd ad 5 5 [(0, .ref (ad k0)), (1, .ref (ad k1)), (2, .int x2), (3, .int x3), (4, .int x4)] [] M := by
  intro fuel
  induction fuel with
  | zero => intro x2 x3 x4 M hf; cases hf
  | succ n IH => exact tX3_findSteps_b5 C hk0 hk1 IH
def mX3_findSteps (k0 : Nat) (k1 : Nat) (x2 : Int32) (M : Mem) : Option (Mem × Int32) := mX3_findSteps_l5 k0 k1 5000 x2 (0 : Int32) (0 : Int32) M
set_option maxHeartbeats 4000000 in
set_option maxRecDepth 100000 in
theorem tX3_findSteps (l : Launch) {G : GT} {kd : Nat → Nat × Nat} {ad : Nat → Nat} {k0 : Nat} {k1 : Nat} (hk0 : kPlanner kd k0) (hk1 : kPart kd k1) {x2 : Int32} {M : Mem} {MO : Mem} {vo : Int32} (hf : mX3_findSteps k0 k1 x2 M = some (MO, vo)) (n : Nat) : Met l yX3_findSteps (Cond.code yX3_findSteps cX3_findSteps 5 (some .int) :: WA) (rmO 3 0 0) (Pg G kd ad n [.ref (ad k0), .ref (ad k1), .int x2] M) (Qg G kd ad n MO (some (.int vo))) 0 0 (AS kd ad n) := by
  refine g_body (own := RX3) (by decide) rfl ?_ (Nat.le_of_ble_eq_true rfl)
  intro p e s m args below meth c C _ H locs ls hI hl
  obtain ⟨hx, hb, hml, hr, hown, hts, hlk, hK, hap, hsx⟩ := id C
  have hl : lv_has ls 5 [(0, .ref (ad k0)), (1, .ref (ad k1)), (2, .int x2)] := hl
  unfold mX3_findSteps at hf
  refine lv_iconst (v := 0) hx hb (dc tbX3_findSteps_0_k 0 rfl) ic_0 ?_
  refine lv_istore_n (lv' := [(3, .int (0 : Int32)), (0, .ref (ad k0)), (1, .ref (ad k1)), (2, .int x2)]) hx hb (dc tbX3_findSteps_0_k 1 rfl) rfl hl (by decide) rfl (fun ls hl => ?_)
  refine lv_iconst (v := 0) hx hb (dc tbX3_findSteps_0_k 2 rfl) ic_0 ?_
  refine lv_istore (lv' := [(4, .int (0 : Int32)), (3, .int (0 : Int32)), (0, .ref (ad k0)), (1, .ref (ad k1)), (2, .int x2)]) hx hb (dc tbX3_findSteps_0_k 3 rfl) hl (by decide) rfl (fun ls hl => ?_)
  exact tX3_findSteps_l5 C hk0 hk1 5000 x2 (0 : Int32) (0 : Int32) M hf _ _ _ hI (lv_sub hl [2, 3, 4, 1, 0] rfl)
theorem cv_X3_findSteps : cvF RX3 yX3_findSteps cX3_findSteps 5 (some .int) 2 := ⟨q_t3_92, q_s1_8, q_t1_6, q_t3_93, by decide +kernel⟩
def mX3_isOpen (k0 : Nat) (x1 : Int32) (x2 : Int32) (M : Mem) : Option Int32 := chk (okb x1 256) (ite2 ((((rd M (k0 + 17) (x1).toNatClampNeg) >>> (x2 &&& 31)) &&& (1 : Int32)) = 0) (some (0 : Int32)) (some (1 : Int32)))
set_option maxHeartbeats 4000000 in
set_option maxRecDepth 100000 in
theorem tX3_isOpen (l : Launch) {G : GT} {kd : Nat → Nat × Nat} {ad : Nat → Nat} {k0 : Nat} (hk0 : kPlanner kd k0) {x1 : Int32} {x2 : Int32} {M : Mem} {vo : Int32} (hf : mX3_isOpen k0 x1 x2 M = some vo) (n : Nat) : Met l yX3_isOpen (Cond.code yX3_isOpen cX3_isOpen 3 (some .boolean) :: WA) (rmO 0 0 0) (Pg G kd ad n [.ref (ad k0), .int x1, .int x2] M) (Qg G kd ad n M (some (.int vo))) 0 0 (AS kd ad n) := by
  refine g_body (own := RX3) (by decide) rfl ?_ (Nat.le_of_ble_eq_true rfl)
  intro p e s m args below meth c C _ H locs ls hI hl
  obtain ⟨hx, hb, hml, hr, hown, hts, hlk, hK, hap, hsx⟩ := id C
  have hl : lv_has ls 3 [(0, .ref (ad k0)), (1, .int x1), (2, .int x2)] := hl
  unfold mX3_isOpen at hf
  refine lv_aload_n hx hb (dc tbX3_isOpen_k 0 rfl) rfl (lv_at hl 0 rfl) ?_
  refine gg3_7 hx hb hts hown hK hI hk0.1 q_t2_15 (dc tbX3_isOpen_k 1 rfl) ?_
  refine lv_iload_n hx hb (dc tbX3_isOpen_k 2 rfl) rfl (lv_at hl 1 rfl) ?_
  obtain ⟨h1, hf⟩ := chk_s hf
  refine g_iald hx hb hK hI hk0.2.2.2.2.1 (okb_in h1) (dc tbX3_isOpen_k 3 rfl) ?_
  refine lv_iload_n hx hb (dc tbX3_isOpen_k 4 rfl) rfl (lv_at hl 2 rfl) ?_
  refine lv_ishr hx hb (dc tbX3_isOpen_k 5 rfl) ?_
  refine lv_iconst (v := 1) hx hb (dc tbX3_isOpen_k 6 rfl) ic_1 ?_
  refine lv_iand hx hb (dc tbX3_isOpen_k 7 rfl) ?_
  refine lv_if_eq (tgt := 17) hx hb (dc tbX3_isOpen_k 8 rfl) rfl (fun c2 => ?_) (fun c2 => ?_)
  · have hf := ite_t c2 hf
    refine lv_iconst (v := 0) hx hb (dc tbX3_isOpen_k 11 rfl) ic_0 ?_
    cases hf
    exact g_zret hx hb hr hlk hI rfl (dc tbX3_isOpen_k 12 rfl)
  · have hf := ite_f c2 hf
    refine lv_iconst (v := 1) hx hb (dc tbX3_isOpen_k 9 rfl) ic_1 ?_
    refine lv_goto (tgt := 18) hx hb (dc tbX3_isOpen_k 10 rfl) rfl ?_
    cases hf
    exact g_zret hx hb hr hlk hI rfl (dc tbX3_isOpen_k 12 rfl)
theorem cv_X3_isOpen : cvF RX3 yX3_isOpen cX3_isOpen 3 (some .boolean) 2 := ⟨q_t3_99, q_s1_9, q_t1_6, q_t3_100, by decide +kernel⟩
def mX3_setBehind (x0 : Int32) (x1 : Int32) (M : Mem) : Option Int32 := some (x0 ||| ((1 : Int32) <<< ((x1 >>> ((1 : Int32) &&& 31)) &&& 31)))
set_option maxHeartbeats 4000000 in
set_option maxRecDepth 100000 in
theorem tX3_setBehind (l : Launch) {G : GT} {kd : Nat → Nat × Nat} {ad : Nat → Nat}  {x0 : Int32} {x1 : Int32} {M : Mem} {vo : Int32} (hf : mX3_setBehind  x0 x1 M = some vo) (n : Nat) : Met l yX3_setBehind (Cond.code yX3_setBehind cX3_setBehind 2 (some .int) :: WA) (rmO 0 0 0) (Pg G kd ad n [.int x0, .int x1] M) (Qg G kd ad n M (some (.int vo))) 0 0 (AS kd ad n) := by
  refine g_body (own := RX3) (by decide) rfl ?_ (Nat.le_of_ble_eq_true rfl)
  intro p e s m args below meth c C _ H locs ls hI hl
  obtain ⟨hx, hb, hml, hr, hown, hts, hlk, hK, hap, hsx⟩ := id C
  have hl : lv_has ls 2 [(0, .int x0), (1, .int x1)] := hl
  unfold mX3_setBehind at hf
  refine lv_iload_n hx hb (dc tbX3_setBehind_k 0 rfl) rfl (lv_at hl 0 rfl) ?_
  refine lv_iconst (v := 1) hx hb (dc tbX3_setBehind_k 1 rfl) ic_1 ?_
  refine lv_iload_n hx hb (dc tbX3_setBehind_k 2 rfl) rfl (lv_at hl 1 rfl) ?_
  refine lv_iconst (v := 1) hx hb (dc tbX3_setBehind_k 3 rfl) ic_1 ?_
  refine lv_ishr hx hb (dc tbX3_setBehind_k 4 rfl) ?_
  refine lv_ishl hx hb (dc tbX3_setBehind_k 5 rfl) ?_
  refine lv_ior hx hb (dc tbX3_setBehind_k 6 rfl) ?_
  cases hf
  exact g_iret hx hb hr hlk hI (dc tbX3_setBehind_k 7 rfl)
theorem cs_X3_setBehind : csF yX3_setBehind cX3_setBehind 2 (some .int) 2 := ⟨q_t3_102, q_t1_6, q_t3_103, by decide +kernel⟩
def mX3_reachSets_b142 (k0 : Nat) (k1 : Nat) (ih67 : Int32 → Mem → Option (Mem × Unit)) (ih107 : Int32 → Int32 → Mem → Option (Mem × Unit)) (x2 : Int32) (x3 : Int32) (M : Mem) : Option (Mem × Unit) := bnd (x3 + (1 : Int32)) (fun x3_142 => ih107 x2 x3_142 M)
set_option maxHeartbeats 4000000 in
set_option maxRecDepth 100000 in
theorem tX3_reachSets_b142 {p : Program} {l : Launch} {e : Env} {s : State} {m : MethodId} {args : Array Value} {below : List Frame} {meth : Method} {c : Code} {G : GT} {kd : Nat → Nat × Nat} {ad : Nat → Nat} (C : Cx p s m args meth c cX3_reachSets 4 none RX3 G kd ad) {k0 : Nat} {k1 : Nat} (hk0 : kPlanner kd k0) (hk1 : kPart kd k1) {MO : Mem} {vo : Unit} {ih67 : Int32 → Mem → Option (Mem × Unit)} {ih107 : Int32 → Int32 → Mem → Option (Mem × Unit)} (hih67 : ∀ (x2 : Int32) (M : Mem), ih67 x2 M = some (MO, vo) → At p l e (rmO 4 0 0) s m args below meth c 0 0 (MQ below (Qg G kd ad s.heap.size MO none) args s 0 0 (AS kd ad s.heap.size)) G kd ad 4 67 [(0, .ref (ad k0)), (1, .ref (ad k1)), (2, .int x2)] [] M) (hih107 : ∀ (x2 : Int32) (x3 : Int32) (M : Mem), ih107 x2 x3 M = some (MO, vo) → At p l e (rmO 4 0 0) s m args below meth c 0 0 (MQ below (Qg G kd ad s.heap.size MO none) args s 0 0 (AS kd ad s.heap.size)) G kd ad 4 107 [(0, .ref (ad k0)), (1, .ref (ad k1)), (2, .int x2), (3, .int x3)] [] M) : ∀ (x2 : Int32) (x3 : Int32) (M : Mem), mX3_reachSets_b142 k0 k1 ih67 ih107 x2 x3 M = some (MO, vo) → At p l e (rmO 4 0 0) s m args below meth c 0 0 (MQ below (Qg G kd ad s.heap.size MO none) args s 0 0 (AS kd ad s.heap.size)) G kd ad 4 142 [(0, .ref (ad k0)), (1, .ref (ad k1)), (2, .int x2), (3, .int x3)] [] M := by
  intro x2 x3 M hf H locs ls hI hl
  obtain ⟨hx, hb, hml, hr, hown, hts, hlk, hK, hap, hsx⟩ := id C
  unfold mX3_reachSets_b142 at hf
  obtain ⟨x3_142, e19, hf⟩ := bnd_s hf
  refine lv_iinc (v := x3_142) (lv' := [(3, .int x3_142), (0, .ref (ad k0)), (1, .ref (ad k1)), (2, .int x2)]) hx hb (dc tbX3_reachSets_1_k 39 rfl) hl (k := 3) rfl (ii_e e19 ic_1) (by decide) rfl (fun ls hl => ?_)
  refine lv_goto (tgt := 107) hx hb (dc tbX3_reachSets_2_k 0 rfl) rfl ?_
  exact hih107 x2 x3_142 M hf _ _ _ hI (lv_sub hl [1, 2, 3, 0] rfl)
def mX3_reachSets_b107 (k0 : Nat) (k1 : Nat) (ih67 : Int32 → Mem → Option (Mem × Unit)) (ih107 : Int32 → Int32 → Mem → Option (Mem × Unit)) (x2 : Int32) (x3 : Int32) (M : Mem) : Option (Mem × Unit) := ite2 ((16 : Int32) ≤ x3) (bnd (x2 + (1 : Int32)) (fun x2_148 => ih67 x2_148 M)) (chk (okb x2 256) (ite2 ((rd M (k0 + 18) (x2).toNatClampNeg) = 0) (mX3_reachSets_b142 k0 k1 ih67 ih107 x2 x3 M) (cap (mX3_isOpen k0 x2 x3 M) (fun r21 => ite2 (r21 = 0) (mX3_reachSets_b142 k0 k1 ih67 ih107 x2 x3 M) (cap (mX3_setBehind x2 x3 M) (fun r25 => chk (okb r25 256) (bnd (wr M (k0 + 18) (r25).toNatClampNeg (vp_nar .boolean (1 : Int32))) (fun M29 => mX3_reachSets_b142 k0 k1 ih67 ih107 x2 x3 M29))))))))
set_option maxHeartbeats 4000000 in
set_option maxRecDepth 100000 in
theorem tX3_reachSets_b107 {p : Program} {l : Launch} {e : Env} {s : State} {m : MethodId} {args : Array Value} {below : List Frame} {meth : Method} {c : Code} {G : GT} {kd : Nat → Nat × Nat} {ad : Nat → Nat} (C : Cx p s m args meth c cX3_reachSets 4 none RX3 G kd ad) {k0 : Nat} {k1 : Nat} (hk0 : kPlanner kd k0) (hk1 : kPart kd k1) {MO : Mem} {vo : Unit} {ih67 : Int32 → Mem → Option (Mem × Unit)} {ih107 : Int32 → Int32 → Mem → Option (Mem × Unit)} (hih67 : ∀ (x2 : Int32) (M : Mem), ih67 x2 M = some (MO, vo) → At p l e (rmO 4 0 0) s m args below meth c 0 0 (MQ below (Qg G kd ad s.heap.size MO none) args s 0 0 (AS kd ad s.heap.size)) G kd ad 4 67 [(0, .ref (ad k0)), (1, .ref (ad k1)), (2, .int x2)] [] M) (hih107 : ∀ (x2 : Int32) (x3 : Int32) (M : Mem), ih107 x2 x3 M = some (MO, vo) → At p l e (rmO 4 0 0) s m args below meth c 0 0 (MQ below (Qg G kd ad s.heap.size MO none) args s 0 0 (AS kd ad s.heap.size)) G kd ad 4 107 [(0, .ref (ad k0)), (1, .ref (ad k1)), (2, .int x2), (3, .int x3)] [] M) : ∀ (x2 : Int32) (x3 : Int32) (M : Mem), mX3_reachSets_b107 k0 k1 ih67 ih107 x2 x3 M = some (MO, vo) → At p l e (rmO 4 0 0) s m args below meth c 0 0 (MQ below (Qg G kd ad s.heap.size MO none) args s 0 0 (AS kd ad s.heap.size)) G kd ad 4 107 [(0, .ref (ad k0)), (1, .ref (ad k1)), (2, .int x2), (3, .int x3)] [] M := by
  intro x2 x3 M hf H locs ls hI hl
  obtain ⟨hx, hb, hml, hr, hown, hts, hlk, hK, hap, hsx⟩ := id C
  unfold mX3_reachSets_b107 at hf
  refine lv_iload_n hx hb (dc tbX3_reachSets_1_k 19 rfl) rfl (lv_at hl 3 rfl) ?_
  refine lv_bipush (v := 16) hx hb (dc tbX3_reachSets_1_k 20 rfl) bp_16 ?_
  refine lv_icmp_ge (tgt := 148) hx hb (dc tbX3_reachSets_1_k 21 rfl) rfl (fun c15 => ?_) (fun c15 => ?_)
  · have hf := ite_t c15 hf
    obtain ⟨x2_148, e16, hf⟩ := bnd_s hf
    refine lv_iinc (v := x2_148) (lv' := [(2, .int x2_148), (0, .ref (ad k0)), (1, .ref (ad k1)), (3, .int x3)]) hx hb (dc tbX3_reachSets_2_k 1 rfl) hl (k := 2) rfl (ii_e e16 ic_1) (by decide) rfl (fun ls hl => ?_)
    refine lv_goto (tgt := 67) hx hb (dc tbX3_reachSets_2_k 2 rfl) rfl ?_
    exact hih67 x2_148 M hf _ _ _ hI (lv_sub hl [1, 2, 0] rfl)
  · have hf := ite_f c15 hf
    refine lv_aload_n hx hb (dc tbX3_reachSets_1_k 22 rfl) rfl (lv_at hl 0 rfl) ?_
    refine gg3_8 hx hb hts hown hK hI hk0.1 q_t2_16 (dc tbX3_reachSets_1_k 23 rfl) ?_
    refine lv_iload_n hx hb (dc tbX3_reachSets_1_k 24 rfl) rfl (lv_at hl 2 rfl) ?_
    obtain ⟨h17, hf⟩ := chk_s hf
    refine g_zald hx hb hK hI hk0.2.2.2.2.2.1 (okb_in h17) (dc tbX3_reachSets_1_k 25 rfl) ?_
    refine lv_if_eq (tgt := 142) hx hb (dc tbX3_reachSets_1_k 26 rfl) rfl (fun c18 => ?_) (fun c18 => ?_)
    · have hf := ite_t c18 hf
      exact tX3_reachSets_b142 C hk0 hk1 hih67 hih107 x2 x3 M hf _ _ _ hI (lv_sub hl [0, 1, 2, 3] rfl)
    · have hf := ite_f c18 hf
      refine lv_aload_n hx hb (dc tbX3_reachSets_1_k 27 rfl) rfl (lv_at hl 0 rfl) ?_
      refine lv_iload_n hx hb (dc tbX3_reachSets_1_k 28 rfl) rfl (lv_at hl 2 rfl) ?_
      refine lv_iload_n hx hb (dc tbX3_reachSets_1_k 29 rfl) rfl (lv_at hl 3 rfl) ?_
      obtain ⟨r21, q20, hf⟩ := cap_s hf
      refine g_callVi hx hb hml hown hts hK hap hsx hI (tX3_isOpen l hk0 q20 H.size) cv_X3_isOpen q_t3_97 rfl rfl ⟨Nat.le_of_ble_eq_true rfl, Nat.le_of_ble_eq_true rfl⟩ hk0.1 (by simp) rfl rfl rfl hl.1 rfl (Nat.le_of_ble_eq_true rfl) (dc tbX3_reachSets_1_k 30 rfl) ⟨Nat.le_of_ble_eq_true rfl, Nat.le_of_ble_eq_true rfl⟩ (fun H locs hI => ?_)
      refine lv_if_eq (tgt := 142) hx hb (dc tbX3_reachSets_1_k 31 rfl) rfl (fun c23 => ?_) (fun c23 => ?_)
      · have hf := ite_t c23 hf
        exact tX3_reachSets_b142 C hk0 hk1 hih67 hih107 x2 x3 M hf _ _ _ hI (lv_sub hl [0, 1, 2, 3] rfl)
      · have hf := ite_f c23 hf
        refine lv_aload_n hx hb (dc tbX3_reachSets_1_k 32 rfl) rfl (lv_at hl 0 rfl) ?_
        refine gg3_8 hx hb hts hown hK hI hk0.1 q_t2_16 (dc tbX3_reachSets_1_k 33 rfl) ?_
        refine lv_iload_n hx hb (dc tbX3_reachSets_1_k 34 rfl) rfl (lv_at hl 2 rfl) ?_
        refine lv_iload_n hx hb (dc tbX3_reachSets_1_k 35 rfl) rfl (lv_at hl 3 rfl) ?_
        obtain ⟨r25, q24, hf⟩ := cap_s hf
        refine g_callSi hx hb hml hown hts hK hap hsx hI (tX3_setBehind l  q24 H.size) cs_X3_setBehind q_t3_101 rfl rfl ⟨Nat.le_of_ble_eq_true rfl, Nat.le_of_ble_eq_true rfl⟩ rfl hl.1 rfl (Nat.le_of_ble_eq_true rfl) (dc tbX3_reachSets_1_k 36 rfl) ⟨Nat.le_of_ble_eq_true rfl, Nat.le_of_ble_eq_true rfl⟩ (fun H locs hI => ?_)
        refine lv_iconst (v := 1) hx hb (dc tbX3_reachSets_1_k 37 rfl) ic_1 ?_
        obtain ⟨h27, hf⟩ := chk_s hf
        obtain ⟨M29, e28, hf⟩ := bnd_s hf
        refine g_zast hx hb hK hap hI hk0.2.2.2.2.2.1 (okb_in h27) (dc tbX3_reachSets_1_k 38 rfl) e28 (fun H locs hI => ?_)
        exact tX3_reachSets_b142 C hk0 hk1 hih67 hih107 x2 x3 M29 hf _ _ _ hI (lv_sub hl [0, 1, 2, 3] rfl)
def mX3_reachSets_l107 (k0 : Nat) (k1 : Nat) (ih67 : Int32 → Mem → Option (Mem × Unit)) : Nat → Int32 → Int32 → Mem → Option (Mem × Unit)
  | 0 => fun _ _ _ => none
  | n + 1 => mX3_reachSets_b107 k0 k1 ih67 (mX3_reachSets_l107 k0 k1 ih67 n)
theorem tX3_reachSets_l107 {p : Program} {l : Launch} {e : Env} {s : State} {m : MethodId} {args : Array Value} {below : List Frame} {meth : Method} {c : Code} {G : GT} {kd : Nat → Nat × Nat} {ad : Nat → Nat} (C : Cx p s m args meth c cX3_reachSets 4 none RX3 G kd ad) {k0 : Nat} {k1 : Nat} (hk0 : kPlanner kd k0) (hk1 : kPart kd k1) {MO : Mem} {vo : Unit} {ih67 : Int32 → Mem → Option (Mem × Unit)} (hih67 : ∀ (x2 : Int32) (M : Mem), ih67 x2 M = some (MO, vo) → At p l e (rmO 4 0 0) s m args below meth c 0 0 (MQ below (Qg G kd ad s.heap.size MO none) args s 0 0 (AS kd ad s.heap.size)) G kd ad 4 67 [(0, .ref (ad k0)), (1, .ref (ad k1)), (2, .int x2)] [] M) : ∀ (fuel : Nat) (x2 : Int32) (x3 : Int32) (M : Mem), mX3_reachSets_l107 k0 k1 ih67 fuel x2 x3 M = some (MO, vo) → At p l e (rmO 4 0 0) s m args below meth c 0 0 (MQ below (Qg G kd ad s.heap.size MO none) args s 0 0 (AS kd ad s.heap.size)) G kd ad 4 107 [(0, .ref (ad k0)), (1, .ref (ad k1)), (2, .int x2), (3, .int x3)] [] M := by
  intro fuel
  induction fuel with
  | zero => intro x2 x3 M hf; cases hf
  | succ n IH => exact tX3_reachSets_b107 C hk0 hk1 hih67 IH
def mX3_reachSets_b105 (k0 : Nat) (k1 : Nat) (ih67 : Int32 → Mem → Option (Mem × Unit)) (x2 : Int32) (M : Mem) : Option (Mem × Unit) := mX3_reachSets_l107 k0 k1 ih67 5000 x2 (0 : Int32) M
set_option maxHeartbeats 4000000 in
set_option maxRecDepth 100000 in
theorem tX3_reachSets_b105 {p : Program} {l : Launch} {e : Env} {s : State} {m : MethodId} {args : Array Value} {below : List Frame} {meth : Method} {c : Code} {G : GT} {kd : Nat → Nat × Nat} {ad : Nat → Nat} (C : Cx p s m args meth c cX3_reachSets 4 none RX3 G kd ad) {k0 : Nat} {k1 : Nat} (hk0 : kPlanner kd k0) (hk1 : kPart kd k1) {MO : Mem} {vo : Unit} {ih67 : Int32 → Mem → Option (Mem × Unit)} (hih67 : ∀ (x2 : Int32) (M : Mem), ih67 x2 M = some (MO, vo) → At p l e (rmO 4 0 0) s m args below meth c 0 0 (MQ below (Qg G kd ad s.heap.size MO none) args s 0 0 (AS kd ad s.heap.size)) G kd ad 4 67 [(0, .ref (ad k0)), (1, .ref (ad k1)), (2, .int x2)] [] M) : ∀ (x2 : Int32) (M : Mem), mX3_reachSets_b105 k0 k1 ih67 x2 M = some (MO, vo) → At p l e (rmO 4 0 0) s m args below meth c 0 0 (MQ below (Qg G kd ad s.heap.size MO none) args s 0 0 (AS kd ad s.heap.size)) G kd ad 4 105 [(0, .ref (ad k0)), (1, .ref (ad k1)), (2, .int x2)] [] M := by
  intro x2 M hf H locs ls hI hl
  obtain ⟨hx, hb, hml, hr, hown, hts, hlk, hK, hap, hsx⟩ := id C
  unfold mX3_reachSets_b105 at hf
  refine lv_iconst (v := 0) hx hb (dc tbX3_reachSets_1_k 17 rfl) ic_0 ?_
  refine lv_istore_n (lv' := [(3, .int (0 : Int32)), (0, .ref (ad k0)), (1, .ref (ad k1)), (2, .int x2)]) hx hb (dc tbX3_reachSets_1_k 18 rfl) rfl hl (by decide) rfl (fun ls hl => ?_)
  exact tX3_reachSets_l107 C hk0 hk1 hih67 5000 x2 (0 : Int32) M hf _ _ _ hI (lv_sub hl [1, 2, 3, 0] rfl)
def mX3_reachSets_b67 (k0 : Nat) (k1 : Nat) (ih67 : Int32 → Mem → Option (Mem × Unit)) (x2 : Int32) (M : Mem) : Option (Mem × Unit) := ite2 ((256 : Int32) ≤ x2) (some (M, ())) (chk (okb x2 256) (ite2 ((rd M (k0 + 18) (x2).toNatClampNeg) = 0) (mX3_reachSets_b105 k0 k1 ih67 x2 M) (chk (okb x2 256) (ite2 ((rd M (k0 + 17) (x2).toNatClampNeg) = (-1 : Int32)) (cal (mX3_findSteps k0 k1 x2 M) (fun M34 r33 => chk (okb x2 256) (bnd (wr M34 (k0 + 17) (x2).toNatClampNeg r33) (fun M37 => mX3_reachSets_b105 k0 k1 ih67 x2 M37)))) (mX3_reachSets_b105 k0 k1 ih67 x2 M)))))
set_option maxHeartbeats 4000000 in
set_option maxRecDepth 100000 in
theorem tX3_reachSets_b67 {p : Program} {l : Launch} {e : Env} {s : State} {m : MethodId} {args : Array Value} {below : List Frame} {meth : Method} {c : Code} {G : GT} {kd : Nat → Nat × Nat} {ad : Nat → Nat} (C : Cx p s m args meth c cX3_reachSets 4 none RX3 G kd ad) {k0 : Nat} {k1 : Nat} (hk0 : kPlanner kd k0) (hk1 : kPart kd k1) {MO : Mem} {vo : Unit} {ih67 : Int32 → Mem → Option (Mem × Unit)} (hih67 : ∀ (x2 : Int32) (M : Mem), ih67 x2 M = some (MO, vo) → At p l e (rmO 4 0 0) s m args below meth c 0 0 (MQ below (Qg G kd ad s.heap.size MO none) args s 0 0 (AS kd ad s.heap.size)) G kd ad 4 67 [(0, .ref (ad k0)), (1, .ref (ad k1)), (2, .int x2)] [] M) : ∀ (x2 : Int32) (M : Mem), mX3_reachSets_b67 k0 k1 ih67 x2 M = some (MO, vo) → At p l e (rmO 4 0 0) s m args below meth c 0 0 (MQ below (Qg G kd ad s.heap.size MO none) args s 0 0 (AS kd ad s.heap.size)) G kd ad 4 67 [(0, .ref (ad k0)), (1, .ref (ad k1)), (2, .int x2)] [] M := by
  intro x2 M hf H locs ls hI hl
  obtain ⟨hx, hb, hml, hr, hown, hts, hlk, hK, hap, hsx⟩ := id C
  unfold mX3_reachSets_b67 at hf
  refine lv_iload_n hx hb (dc tbX3_reachSets_0_k 35 rfl) rfl (lv_at hl 2 rfl) ?_
  refine lv_sipush (v := 256) hx hb (dc tbX3_reachSets_0_k 36 rfl) sp_256 ?_
  refine lv_icmp_ge (tgt := 154) hx hb (dc tbX3_reachSets_0_k 37 rfl) rfl (fun c12 => ?_) (fun c12 => ?_)
  · have hf := ite_t c12 hf
    cases hf
    exact g_vret hx hb hr hlk hI (dc tbX3_reachSets_2_k 3 rfl)
  · have hf := ite_f c12 hf
    refine lv_aload_n hx hb (dc tbX3_reachSets_0_k 38 rfl) rfl (lv_at hl 0 rfl) ?_
    refine gg3_8 hx hb hts hown hK hI hk0.1 q_t2_16 (dc tbX3_reachSets_0_k 39 rfl) ?_
    refine lv_iload_n hx hb (dc tbX3_reachSets_1_k 0 rfl) rfl (lv_at hl 2 rfl) ?_
    obtain ⟨h13, hf⟩ := chk_s hf
    refine g_zald hx hb hK hI hk0.2.2.2.2.2.1 (okb_in h13) (dc tbX3_reachSets_1_k 1 rfl) ?_
    refine lv_if_eq (tgt := 105) hx hb (dc tbX3_reachSets_1_k 2 rfl) rfl (fun c14 => ?_) (fun c14 => ?_)
    · have hf := ite_t c14 hf
      exact tX3_reachSets_b105 C hk0 hk1 hih67 x2 M hf _ _ _ hI (lv_sub hl [0, 1, 2] rfl)
    · have hf := ite_f c14 hf
      refine lv_aload_n hx hb (dc tbX3_reachSets_1_k 3 rfl) rfl (lv_at hl 0 rfl) ?_
      refine gg3_7 hx hb hts hown hK hI hk0.1 q_t2_15 (dc tbX3_reachSets_1_k 4 rfl) ?_
      refine lv_iload_n hx hb (dc tbX3_reachSets_1_k 5 rfl) rfl (lv_at hl 2 rfl) ?_
      obtain ⟨h30, hf⟩ := chk_s hf
      refine g_iald hx hb hK hI hk0.2.2.2.2.1 (okb_in h30) (dc tbX3_reachSets_1_k 6 rfl) ?_
      refine lv_iconst (v := -1) hx hb (dc tbX3_reachSets_1_k 7 rfl) ic_m1 ?_
      refine lv_icmp_ne (tgt := 105) hx hb (dc tbX3_reachSets_1_k 8 rfl) rfl (fun c31 => ?_) (fun c31 => ?_)
      · have hf := ite_f c31 hf
        exact tX3_reachSets_b105 C hk0 hk1 hih67 x2 M hf _ _ _ hI (lv_sub hl [0, 1, 2] rfl)
      · have hf := ite_t c31 hf
        refine lv_aload_n hx hb (dc tbX3_reachSets_1_k 9 rfl) rfl (lv_at hl 0 rfl) ?_
        refine gg3_7 hx hb hts hown hK hI hk0.1 q_t2_15 (dc tbX3_reachSets_1_k 10 rfl) ?_
        refine lv_iload_n hx hb (dc tbX3_reachSets_1_k 11 rfl) rfl (lv_at hl 2 rfl) ?_
        refine lv_aload_n hx hb (dc tbX3_reachSets_1_k 12 rfl) rfl (lv_at hl 0 rfl) ?_
        refine lv_aload_n hx hb (dc tbX3_reachSets_1_k 13 rfl) rfl (lv_at hl 1 rfl) ?_
        refine lv_iload_n hx hb (dc tbX3_reachSets_1_k 14 rfl) rfl (lv_at hl 2 rfl) ?_
        obtain ⟨M34, r33, q32, hf⟩ := cal_s hf
        refine g_callVi hx hb hml hown hts hK hap hsx hI (tX3_findSteps l hk0 hk1 q32 H.size) cv_X3_findSteps q_t3_90 rfl rfl ⟨Nat.le_of_ble_eq_true rfl, Nat.le_of_ble_eq_true rfl⟩ hk0.1 (by simp) rfl rfl rfl hl.1 rfl (Nat.le_of_ble_eq_true rfl) (dc tbX3_reachSets_1_k 15 rfl) ⟨Nat.le_of_ble_eq_true rfl, Nat.le_of_ble_eq_true rfl⟩ (fun H locs hI => ?_)
        obtain ⟨h35, hf⟩ := chk_s hf
        obtain ⟨M37, e36, hf⟩ := bnd_s hf
        refine g_iast hx hb hK hap hI hk0.2.2.2.2.1 (okb_in h35) (dc tbX3_reachSets_1_k 16 rfl) e36 (fun H locs hI => ?_)
        exact tX3_reachSets_b105 C hk0 hk1 hih67 x2 M37 hf _ _ _ hI (lv_sub hl [0, 1, 2] rfl)
def mX3_reachSets_l67 (k0 : Nat) (k1 : Nat) : Nat → Int32 → Mem → Option (Mem × Unit)
  | 0 => fun _ _ => none
  | n + 1 => mX3_reachSets_b67 k0 k1 (mX3_reachSets_l67 k0 k1 n)
theorem tX3_reachSets_l67 {p : Program} {l : Launch} {e : Env} {s : State} {m : MethodId} {args : Array Value} {below : List Frame} {meth : Method} {c : Code} {G : GT} {kd : Nat → Nat × Nat} {ad : Nat → Nat} (C : Cx p s m args meth c cX3_reachSets 4 none RX3 G kd ad) {k0 : Nat} {k1 : Nat} (hk0 : kPlanner kd k0) (hk1 : kPart kd k1) {MO : Mem} {vo : Unit}   : ∀ (fuel : Nat) (x2 : Int32) (M : Mem), mX3_reachSets_l67 k0 k1 fuel x2 M = some (MO, vo) → At p l e (rmO 4 0 0) s m args below meth c 0 0 (MQ below (Qg G kd ad s.heap.size MO none) args s 0 0 (AS kd ad s.heap.size)) G kd ad 4 67 [(0, .ref (ad k0)), (1, .ref (ad k1)), (2, .int x2)] [] M := by
  intro fuel
  induction fuel with
  | zero => intro x2 M hf; cases hf
  | succ n IH => exact tX3_reachSets_b67 C hk0 hk1 IH
def mX3_reachSets_b55 (k0 : Nat) (k1 : Nat) (ih30 : Int32 → Mem → Option (Mem × Unit)) (x2 : Int32) (y1 : Int32) (y2 : Int32) (M : Mem) : Option (Mem × Unit) := chk (okb y1 256) (bnd (wr M (k0 + 18) (y1).toNatClampNeg (vp_nar .boolean y2)) (fun M41 => bnd (x2 + (1 : Int32)) (fun x2_56 => ih30 x2_56 M41)))
set_option maxHeartbeats 4000000 in
set_option maxRecDepth 100000 in
theorem tX3_reachSets_b55 {p : Program} {l : Launch} {e : Env} {s : State} {m : MethodId} {args : Array Value} {below : List Frame} {meth : Method} {c : Code} {G : GT} {kd : Nat → Nat × Nat} {ad : Nat → Nat} (C : Cx p s m args meth c cX3_reachSets 4 none RX3 G kd ad) {k0 : Nat} {k1 : Nat} (hk0 : kPlanner kd k0) (hk1 : kPart kd k1) {MO : Mem} {vo : Unit} {ih30 : Int32 → Mem → Option (Mem × Unit)} (hih30 : ∀ (x2 : Int32) (M : Mem), ih30 x2 M = some (MO, vo) → At p l e (rmO 4 0 0) s m args below meth c 0 0 (MQ below (Qg G kd ad s.heap.size MO none) args s 0 0 (AS kd ad s.heap.size)) G kd ad 4 30 [(0, .ref (ad k0)), (1, .ref (ad k1)), (2, .int x2)] [] M) : ∀ (x2 : Int32) (y1 : Int32) (y2 : Int32) (M : Mem), mX3_reachSets_b55 k0 k1 ih30 x2 y1 y2 M = some (MO, vo) → At p l e (rmO 4 0 0) s m args below meth c 0 0 (MQ below (Qg G kd ad s.heap.size MO none) args s 0 0 (AS kd ad s.heap.size)) G kd ad 4 55 [(0, .ref (ad k0)), (1, .ref (ad k1)), (2, .int x2)] [.int y2, .int y1, .ref (ad (k0 + 18))] M := by
  intro x2 y1 y2 M hf H locs ls hI hl
  obtain ⟨hx, hb, hml, hr, hown, hts, hlk, hK, hap, hsx⟩ := id C
  unfold mX3_reachSets_b55 at hf
  obtain ⟨h39, hf⟩ := chk_s hf
  obtain ⟨M41, e40, hf⟩ := bnd_s hf
  refine g_zast hx hb hK hap hI hk0.2.2.2.2.2.1 (okb_in h39) (dc tbX3_reachSets_0_k 29 rfl) e40 (fun H locs hI => ?_)
  obtain ⟨x2_56, e42, hf⟩ := bnd_s hf
  refine lv_iinc (v := x2_56) (lv' := [(2, .int x2_56), (0, .ref (ad k0)), (1, .ref (ad k1))]) hx hb (dc tbX3_reachSets_0_k 30 rfl) hl (k := 2) rfl (ii_e e42 ic_1) (by decide) rfl (fun ls hl => ?_)
  refine lv_goto (tgt := 30) hx hb (dc tbX3_reachSets_0_k 31 rfl) rfl ?_
  exact hih30 x2_56 M41 hf _ _ _ hI (lv_sub hl [1, 2, 0] rfl)
def mX3_reachSets_b30 (k0 : Nat) (k1 : Nat) (ih30 : Int32 → Mem → Option (Mem × Unit)) (x2 : Int32) (M : Mem) : Option (Mem × Unit) := ite2 ((256 : Int32) ≤ x2) (bnd ((rd M k1 13)) (fun x2_66 => mX3_reachSets_l67 k0 k1 5000 x2_66 M)) (ite2 (x2 = (rd M k1 13)) (mX3_reachSets_b55 k0 k1 ih30 x2 x2 (1 : Int32) M) (mX3_reachSets_b55 k0 k1 ih30 x2 x2 (0 : Int32) M))
set_option maxHeartbeats 4000000 in
set_option maxRecDepth 100000 in
theorem tX3_reachSets_b30 {p : Program} {l : Launch} {e : Env} {s : State} {m : MethodId} {args : Array Value} {below : List Frame} {meth : Method} {c : Code} {G : GT} {kd : Nat → Nat × Nat} {ad : Nat → Nat} (C : Cx p s m args meth c cX3_reachSets 4 none RX3 G kd ad) {k0 : Nat} {k1 : Nat} (hk0 : kPlanner kd k0) (hk1 : kPart kd k1) {MO : Mem} {vo : Unit} {ih30 : Int32 → Mem → Option (Mem × Unit)} (hih30 : ∀ (x2 : Int32) (M : Mem), ih30 x2 M = some (MO, vo) → At p l e (rmO 4 0 0) s m args below meth c 0 0 (MQ below (Qg G kd ad s.heap.size MO none) args s 0 0 (AS kd ad s.heap.size)) G kd ad 4 30 [(0, .ref (ad k0)), (1, .ref (ad k1)), (2, .int x2)] [] M) : ∀ (x2 : Int32) (M : Mem), mX3_reachSets_b30 k0 k1 ih30 x2 M = some (MO, vo) → At p l e (rmO 4 0 0) s m args below meth c 0 0 (MQ below (Qg G kd ad s.heap.size MO none) args s 0 0 (AS kd ad s.heap.size)) G kd ad 4 30 [(0, .ref (ad k0)), (1, .ref (ad k1)), (2, .int x2)] [] M := by
  intro x2 M hf H locs ls hI hl
  obtain ⟨hx, hb, hml, hr, hown, hts, hlk, hK, hap, hsx⟩ := id C
  unfold mX3_reachSets_b30 at hf
  refine lv_iload_n hx hb (dc tbX3_reachSets_0_k 16 rfl) rfl (lv_at hl 2 rfl) ?_
  refine lv_sipush (v := 256) hx hb (dc tbX3_reachSets_0_k 17 rfl) sp_256 ?_
  refine lv_icmp_ge (tgt := 62) hx hb (dc tbX3_reachSets_0_k 18 rfl) rfl (fun c10 => ?_) (fun c10 => ?_)
  · have hf := ite_t c10 hf
    refine lv_aload_n hx hb (dc tbX3_reachSets_0_k 32 rfl) rfl (lv_at hl 1 rfl) ?_
    refine gg1_13 hx hb hts hown hK hI hk1.1 q_t1_127 (dc tbX3_reachSets_0_k 33 rfl) ?_
    obtain ⟨x2_66, e11, hf⟩ := bnd_s hf
    refine lv_ei e11 ?_
    refine lv_istore_n (lv' := [(2, .int x2_66), (0, .ref (ad k0)), (1, .ref (ad k1))]) hx hb (dc tbX3_reachSets_0_k 34 rfl) rfl hl (by decide) rfl (fun ls hl => ?_)
    exact tX3_reachSets_l67 C hk0 hk1 5000 x2_66 M hf _ _ _ hI (lv_sub hl [1, 2, 0] rfl)
  · have hf := ite_f c10 hf
    refine lv_aload_n hx hb (dc tbX3_reachSets_0_k 19 rfl) rfl (lv_at hl 0 rfl) ?_
    refine gg3_8 hx hb hts hown hK hI hk0.1 q_t2_16 (dc tbX3_reachSets_0_k 20 rfl) ?_
    refine lv_iload_n hx hb (dc tbX3_reachSets_0_k 21 rfl) rfl (lv_at hl 2 rfl) ?_
    refine lv_iload_n hx hb (dc tbX3_reachSets_0_k 22 rfl) rfl (lv_at hl 2 rfl) ?_
    refine lv_aload_n hx hb (dc tbX3_reachSets_0_k 23 rfl) rfl (lv_at hl 1 rfl) ?_
    refine gg1_13 hx hb hts hown hK hI hk1.1 q_t1_127 (dc tbX3_reachSets_0_k 24 rfl) ?_
    refine lv_icmp_ne (tgt := 54) hx hb (dc tbX3_reachSets_0_k 25 rfl) rfl (fun c38 => ?_) (fun c38 => ?_)
    · have hf := ite_f c38 hf
      refine lv_iconst (v := 0) hx hb (dc tbX3_reachSets_0_k 28 rfl) ic_0 ?_
      exact tX3_reachSets_b55 C hk0 hk1 hih30 x2 x2 (0 : Int32) M hf _ _ _ hI (lv_sub hl [0, 1, 2] rfl)
    · have hf := ite_t c38 hf
      refine lv_iconst (v := 1) hx hb (dc tbX3_reachSets_0_k 26 rfl) ic_1 ?_
      refine lv_goto (tgt := 55) hx hb (dc tbX3_reachSets_0_k 27 rfl) rfl ?_
      exact tX3_reachSets_b55 C hk0 hk1 hih30 x2 x2 (1 : Int32) M hf _ _ _ hI (lv_sub hl [0, 1, 2] rfl)
def mX3_reachSets_l30 (k0 : Nat) (k1 : Nat) : Nat → Int32 → Mem → Option (Mem × Unit)
  | 0 => fun _ _ => none
  | n + 1 => mX3_reachSets_b30 k0 k1 (mX3_reachSets_l30 k0 k1 n)
theorem tX3_reachSets_l30 {p : Program} {l : Launch} {e : Env} {s : State} {m : MethodId} {args : Array Value} {below : List Frame} {meth : Method} {c : Code} {G : GT} {kd : Nat → Nat × Nat} {ad : Nat → Nat} (C : Cx p s m args meth c cX3_reachSets 4 none RX3 G kd ad) {k0 : Nat} {k1 : Nat} (hk0 : kPlanner kd k0) (hk1 : kPart kd k1) {MO : Mem} {vo : Unit}   : ∀ (fuel : Nat) (x2 : Int32) (M : Mem), mX3_reachSets_l30 k0 k1 fuel x2 M = some (MO, vo) → At p l e (rmO 4 0 0) s m args below meth c 0 0 (MQ below (Qg G kd ad s.heap.size MO none) args s 0 0 (AS kd ad s.heap.size)) G kd ad 4 30 [(0, .ref (ad k0)), (1, .ref (ad k1)), (2, .int x2)] [] M := by
  intro fuel
  induction fuel with
  | zero => intro x2 M hf; cases hf
  | succ n IH => exact tX3_reachSets_b30 C hk0 hk1 IH
def mX3_reachSets_b15 (k0 : Nat) (k1 : Nat) (M : Mem) : Option (Mem × Unit) := cal (mX1_copyFrom (k0 + 9) k1 M) (fun M7 _ => bnd (wr M7 k0 6 (0 : Int32)) (fun M8 => mX3_reachSets_l30 k0 k1 5000 (0 : Int32) M8))
set_option maxHeartbeats 4000000 in
set_option maxRecDepth 100000 in
theorem tX3_reachSets_b15 {p : Program} {l : Launch} {e : Env} {s : State} {m : MethodId} {args : Array Value} {below : List Frame} {meth : Method} {c : Code} {G : GT} {kd : Nat → Nat × Nat} {ad : Nat → Nat} (C : Cx p s m args meth c cX3_reachSets 4 none RX3 G kd ad) {k0 : Nat} {k1 : Nat} (hk0 : kPlanner kd k0) (hk1 : kPart kd k1) {MO : Mem} {vo : Unit}   : ∀  (M : Mem), mX3_reachSets_b15 k0 k1 M = some (MO, vo) → At p l e (rmO 4 0 0) s m args below meth c 0 0 (MQ below (Qg G kd ad s.heap.size MO none) args s 0 0 (AS kd ad s.heap.size)) G kd ad 4 15 [(0, .ref (ad k0)), (1, .ref (ad k1))] [] M := by
  intro M hf H locs ls hI hl
  obtain ⟨hx, hb, hml, hr, hown, hts, hlk, hK, hap, hsx⟩ := id C
  unfold mX3_reachSets_b15 at hf
  refine lv_aload_n hx hb (dc tbX3_reachSets_0_k 7 rfl) rfl (lv_at hl 0 rfl) ?_
  refine gg3_5 hx hb hts hown hK hI hk0.1 q_t2_13 (dc tbX3_reachSets_0_k 8 rfl) ?_
  refine lv_aload_n hx hb (dc tbX3_reachSets_0_k 9 rfl) rfl (lv_at hl 1 rfl) ?_
  obtain ⟨M7, r6, q5, hf⟩ := cal_s hf
  refine g_callVv hx hb hml hown hts hK hap hsx hI (tX1_copyFrom l hk0.2.2.2.1 hk1 q5 H.size) cv_X1_copyFrom q_t3_83 rfl rfl ⟨Nat.le_of_ble_eq_true rfl, Nat.le_of_ble_eq_true rfl⟩ hk0.2.2.2.1.1 (by simp) rfl rfl rfl hl.1 rfl (Nat.le_of_ble_eq_true rfl) (dc tbX3_reachSets_0_k 10 rfl) ⟨Nat.le_of_ble_eq_true rfl, Nat.le_of_ble_eq_true rfl⟩ (fun H locs hI => ?_)
  refine lv_aload_n hx hb (dc tbX3_reachSets_0_k 11 rfl) rfl (lv_at hl 0 rfl) ?_
  refine lv_iconst (v := 0) hx hb (dc tbX3_reachSets_0_k 12 rfl) ic_0 ?_
  obtain ⟨M8, e9, hf⟩ := bnd_s hf
  refine gp3_6 hx hb hts hown hK hap hI hk0.1 q_t2_14 (dc tbX3_reachSets_0_k 13 rfl) rfl rfl e9 (fun H locs hI => ?_)
  refine lv_iconst (v := 0) hx hb (dc tbX3_reachSets_0_k 14 rfl) ic_0 ?_
  refine lv_istore_n (lv' := [(2, .int (0 : Int32)), (0, .ref (ad k0)), (1, .ref (ad k1))]) hx hb (dc tbX3_reachSets_0_k 15 rfl) rfl hl (by decide) rfl (fun ls hl => ?_)
  exact tX3_reachSets_l30 C hk0 hk1 5000 (0 : Int32) M8 hf _ _ _ hI (lv_sub hl [1, 2, 0] rfl)
def mX3_reachSets (k0 : Nat) (k1 : Nat) (M : Mem) : Option (Mem × Unit) := cap (mX1_bendsLike k1 (k0 + 9) M) (fun r2 => ite2 (r2 = 0) (cal (mX3_forgetSteps k0 M) (fun M45 _ => mX3_reachSets_b15 k0 k1 M45)) (mX3_reachSets_b15 k0 k1 M))
set_option maxHeartbeats 4000000 in
set_option maxRecDepth 100000 in
theorem tX3_reachSets (l : Launch) {G : GT} {kd : Nat → Nat × Nat} {ad : Nat → Nat} {k0 : Nat} {k1 : Nat} (hk0 : kPlanner kd k0) (hk1 : kPart kd k1) {M : Mem} {MO : Mem} {vo : Unit} (hf : mX3_reachSets k0 k1 M = some (MO, vo)) (n : Nat) : Met l yX3_reachSets (Cond.code yX3_reachSets cX3_reachSets 4 none :: WA) (rmO 4 0 0) (Pg G kd ad n [.ref (ad k0), .ref (ad k1)] M) (Qg G kd ad n MO none) 0 0 (AS kd ad n) := by
  refine g_body (own := RX3) (by decide) rfl ?_ (Nat.le_of_ble_eq_true rfl)
  intro p e s m args below meth c C _ H locs ls hI hl
  obtain ⟨hx, hb, hml, hr, hown, hts, hlk, hK, hap, hsx⟩ := id C
  have hl : lv_has ls 4 [(0, .ref (ad k0)), (1, .ref (ad k1))] := hl
  unfold mX3_reachSets at hf
  refine lv_aload_n hx hb (dc tbX3_reachSets_0_k 0 rfl) rfl (lv_at hl 1 rfl) ?_
  refine lv_aload_n hx hb (dc tbX3_reachSets_0_k 1 rfl) rfl (lv_at hl 0 rfl) ?_
  refine gg3_5 hx hb hts hown hK hI hk0.1 q_t2_13 (dc tbX3_reachSets_0_k 2 rfl) ?_
  obtain ⟨r2, q1, hf⟩ := cap_s hf
  refine g_callVi hx hb hml hown hts hK hap hsx hI (tX1_bendsLike l hk1 hk0.2.2.2.1 q1 H.size) cv_X1_bendsLike q_t3_63 rfl rfl ⟨Nat.le_of_ble_eq_true rfl, Nat.le_of_ble_eq_true rfl⟩ hk1.1 (by simp) rfl rfl rfl hl.1 rfl (Nat.le_of_ble_eq_true rfl) (dc tbX3_reachSets_0_k 3 rfl) ⟨Nat.le_of_ble_eq_true rfl, Nat.le_of_ble_eq_true rfl⟩ (fun H locs hI => ?_)
  refine lv_if_ne (tgt := 15) hx hb (dc tbX3_reachSets_0_k 4 rfl) rfl (fun c4 => ?_) (fun c4 => ?_)
  · have hf := ite_f c4 hf
    exact tX3_reachSets_b15 C hk0 hk1 M hf _ _ _ hI (lv_sub hl [0, 1] rfl)
  · have hf := ite_t c4 hf
    refine lv_aload_n hx hb (dc tbX3_reachSets_0_k 5 rfl) rfl (lv_at hl 0 rfl) ?_
    obtain ⟨M45, r44, q43, hf⟩ := cal_s hf
    refine g_callVv hx hb hml hown hts hK hap hsx hI (tX3_forgetSteps l hk0 q43 H.size) cv_X3_forgetSteps q_t2_0 rfl rfl ⟨Nat.le_of_ble_eq_true rfl, Nat.le_of_ble_eq_true rfl⟩ hk0.1 (by simp) rfl rfl rfl hl.1 rfl (Nat.le_of_ble_eq_true rfl) (dc tbX3_reachSets_0_k 6 rfl) ⟨Nat.le_of_ble_eq_true rfl, Nat.le_of_ble_eq_true rfl⟩ (fun H locs hI => ?_)
    exact tX3_reachSets_b15 C hk0 hk1 M45 hf _ _ _ hI (lv_sub hl [0, 1] rfl)
theorem cv_X3_reachSets : cvF RX3 yX3_reachSets cX3_reachSets 4 none 1 := ⟨q_t3_81, q_s1_7, q_t1_6, q_t3_82, by decide +kernel⟩
def mX3_countOrders_b78 (k0 : Nat) (k1 : Nat) (ih9 : Int32 → Int32 → Mem → Option (Mem × Unit)) (ih32 : Int32 → Int32 → Int32 → Mem → Option (Mem × Unit)) (x2 : Int32) (x3 : Int32) (x4 : Int32) (M : Mem) : Option (Mem × Unit) := bnd (x4 + (1 : Int32)) (fun x4_78 => ih32 x2 x3 x4_78 M)
set_option maxHeartbeats 4000000 in
set_option maxRecDepth 100000 in
theorem tX3_countOrders_b78 {p : Program} {l : Launch} {e : Env} {s : State} {m : MethodId} {args : Array Value} {below : List Frame} {meth : Method} {c : Code} {G : GT} {kd : Nat → Nat × Nat} {ad : Nat → Nat} (C : Cx p s m args meth c cX3_countOrders 5 none RX3 G kd ad) {k0 : Nat} {k1 : Nat} (hk0 : kPlanner kd k0) (hk1 : kPart kd k1) {MO : Mem} {vo : Unit} {ih9 : Int32 → Int32 → Mem → Option (Mem × Unit)} {ih32 : Int32 → Int32 → Int32 → Mem → Option (Mem × Unit)} (hih9 : ∀ (x2 : Int32) (x3 : Int32) (M : Mem), ih9 x2 x3 M = some (MO, vo) → At p l e (rmO 2 0 0) s m args below meth c 0 0 (MQ below (Qg G kd ad s.heap.size MO none) args s 0 0 (AS kd ad s.heap.size)) G kd ad 5 9 [(0, .ref (ad k0)), (2, .int x2), (3, .int x3)] [] M) (hih32 : ∀ (x2 : Int32) (x3 : Int32) (x4 : Int32) (M : Mem), ih32 x2 x3 x4 M = some (MO, vo) → At p l e (rmO 2 0 0) s m args below meth c 0 0 (MQ below (Qg G kd ad s.heap.size MO none) args s 0 0 (AS kd ad s.heap.size)) G kd ad 5 32 [(0, .ref (ad k0)), (2, .int x2), (3, .int x3), (4, .int x4)] [] M) : ∀ (x2 : Int32) (x3 : Int32) (x4 : Int32) (M : Mem), mX3_countOrders_b78 k0 k1 ih9 ih32 x2 x3 x4 M = some (MO, vo) → At p l e (rmO 2 0 0) s m args below meth c 0 0 (MQ below (Qg G kd ad s.heap.size MO none) args s 0 0 (AS kd ad s.heap.size)) G kd ad 5 78 [(0, .ref (ad k0)), (2, .int x2), (3, .int x3), (4, .int x4)] [] M := by
  intro x2 x3 x4 M hf H locs ls hI hl
  obtain ⟨hx, hb, hml, hr, hown, hts, hlk, hK, hap, hsx⟩ := id C
  unfold mX3_countOrders_b78 at hf
  obtain ⟨x4_78, e13, hf⟩ := bnd_s hf
  refine lv_iinc (v := x4_78) (lv' := [(4, .int x4_78), (0, .ref (ad k0)), (2, .int x2), (3, .int x3)]) hx hb (dc tbX3_countOrders_1_k 5 rfl) hl (k := 3) rfl (ii_e e13 ic_1) (by decide) rfl (fun ls hl => ?_)
  refine lv_goto (tgt := 32) hx hb (dc tbX3_countOrders_1_k 6 rfl) rfl ?_
  exact hih32 x2 x3 x4_78 M hf _ _ _ hI (lv_sub hl [1, 2, 3, 0] rfl)
def mX3_countOrders_b32 (k0 : Nat) (k1 : Nat) (ih9 : Int32 → Int32 → Mem → Option (Mem × Unit)) (ih32 : Int32 → Int32 → Int32 → Mem → Option (Mem × Unit)) (x2 : Int32) (x3 : Int32) (x4 : Int32) (M : Mem) : Option (Mem × Unit) := ite2 ((16 : Int32) ≤ x4) (bnd (x3 + (-1 : Int32)) (fun x3_84 => ih9 x2 x3_84 M)) (chk (okb x3 256) (ite2 ((rd M (k0 + 18) (x3).toNatClampNeg) = 0) (mX3_countOrders_b78 k0 k1 ih9 ih32 x2 x3 x4 M) (cap (mX3_isOpen k0 x3 x4 M) (fun r15 => ite2 (r15 = 0) (mX3_countOrders_b78 k0 k1 ih9 ih32 x2 x3 x4 M) (chk (okb x3 256) (cap (mX3_setBehind x3 x4 M) (fun r20 => chk (okb r20 256) (chk (okb x3 256) (bnd (wl M (k0 + 19) (x3).toNatClampNeg ((rl M (k0 + 19) (x3).toNatClampNeg) + (rl M (k0 + 19) (r20).toNatClampNeg))) (fun M25 => mX3_countOrders_b78 k0 k1 ih9 ih32 x2 x3 x4 M25))))))))))
set_option maxHeartbeats 4000000 in
set_option maxRecDepth 100000 in
theorem tX3_countOrders_b32 {p : Program} {l : Launch} {e : Env} {s : State} {m : MethodId} {args : Array Value} {below : List Frame} {meth : Method} {c : Code} {G : GT} {kd : Nat → Nat × Nat} {ad : Nat → Nat} (C : Cx p s m args meth c cX3_countOrders 5 none RX3 G kd ad) {k0 : Nat} {k1 : Nat} (hk0 : kPlanner kd k0) (hk1 : kPart kd k1) {MO : Mem} {vo : Unit} {ih9 : Int32 → Int32 → Mem → Option (Mem × Unit)} {ih32 : Int32 → Int32 → Int32 → Mem → Option (Mem × Unit)} (hih9 : ∀ (x2 : Int32) (x3 : Int32) (M : Mem), ih9 x2 x3 M = some (MO, vo) → At p l e (rmO 2 0 0) s m args below meth c 0 0 (MQ below (Qg G kd ad s.heap.size MO none) args s 0 0 (AS kd ad s.heap.size)) G kd ad 5 9 [(0, .ref (ad k0)), (2, .int x2), (3, .int x3)] [] M) (hih32 : ∀ (x2 : Int32) (x3 : Int32) (x4 : Int32) (M : Mem), ih32 x2 x3 x4 M = some (MO, vo) → At p l e (rmO 2 0 0) s m args below meth c 0 0 (MQ below (Qg G kd ad s.heap.size MO none) args s 0 0 (AS kd ad s.heap.size)) G kd ad 5 32 [(0, .ref (ad k0)), (2, .int x2), (3, .int x3), (4, .int x4)] [] M) : ∀ (x2 : Int32) (x3 : Int32) (x4 : Int32) (M : Mem), mX3_countOrders_b32 k0 k1 ih9 ih32 x2 x3 x4 M = some (MO, vo) → At p l e (rmO 2 0 0) s m args below meth c 0 0 (MQ below (Qg G kd ad s.heap.size MO none) args s 0 0 (AS kd ad s.heap.size)) G kd ad 5 32 [(0, .ref (ad k0)), (2, .int x2), (3, .int x3), (4, .int x4)] [] M := by
  intro x2 x3 x4 M hf H locs ls hI hl
  obtain ⟨hx, hb, hml, hr, hown, hts, hlk, hK, hap, hsx⟩ := id C
  unfold mX3_countOrders_b32 at hf
  refine lv_iload hx hb (dc tbX3_countOrders_0_k 19 rfl) (lv_at hl 3 rfl) ?_
  refine lv_bipush (v := 16) hx hb (dc tbX3_countOrders_0_k 20 rfl) bp_16 ?_
  refine lv_icmp_ge (tgt := 84) hx hb (dc tbX3_countOrders_0_k 21 rfl) rfl (fun c9 => ?_) (fun c9 => ?_)
  · have hf := ite_t c9 hf
    obtain ⟨x3_84, e10, hf⟩ := bnd_s hf
    refine lv_iinc (v := x3_84) (lv' := [(3, .int x3_84), (0, .ref (ad k0)), (2, .int x2), (4, .int x4)]) hx hb (dc tbX3_countOrders_1_k 7 rfl) hl (k := 2) rfl (ii_e e10 ic_m1) (by decide) rfl (fun ls hl => ?_)
    refine lv_goto (tgt := 9) hx hb (dc tbX3_countOrders_1_k 8 rfl) rfl ?_
    exact hih9 x2 x3_84 M hf _ _ _ hI (lv_sub hl [1, 2, 0] rfl)
  · have hf := ite_f c9 hf
    refine lv_aload_n hx hb (dc tbX3_countOrders_0_k 22 rfl) rfl (lv_at hl 0 rfl) ?_
    refine gg3_8 hx hb hts hown hK hI hk0.1 q_t2_16 (dc tbX3_countOrders_0_k 23 rfl) ?_
    refine lv_iload_n hx hb (dc tbX3_countOrders_0_k 24 rfl) rfl (lv_at hl 2 rfl) ?_
    obtain ⟨h11, hf⟩ := chk_s hf
    refine g_zald hx hb hK hI hk0.2.2.2.2.2.1 (okb_in h11) (dc tbX3_countOrders_0_k 25 rfl) ?_
    refine lv_if_eq (tgt := 78) hx hb (dc tbX3_countOrders_0_k 26 rfl) rfl (fun c12 => ?_) (fun c12 => ?_)
    · have hf := ite_t c12 hf
      exact tX3_countOrders_b78 C hk0 hk1 hih9 hih32 x2 x3 x4 M hf _ _ _ hI (lv_sub hl [0, 1, 2, 3] rfl)
    · have hf := ite_f c12 hf
      refine lv_aload_n hx hb (dc tbX3_countOrders_0_k 27 rfl) rfl (lv_at hl 0 rfl) ?_
      refine lv_iload_n hx hb (dc tbX3_countOrders_0_k 28 rfl) rfl (lv_at hl 2 rfl) ?_
      refine lv_iload hx hb (dc tbX3_countOrders_0_k 29 rfl) (lv_at hl 3 rfl) ?_
      obtain ⟨r15, q14, hf⟩ := cap_s hf
      refine g_callVi hx hb hml hown hts hK hap hsx hI (tX3_isOpen l hk0 q14 H.size) cv_X3_isOpen q_t3_97 rfl rfl ⟨Nat.le_of_ble_eq_true rfl, Nat.le_of_ble_eq_true rfl⟩ hk0.1 (by simp) rfl rfl rfl hl.1 rfl (Nat.le_of_ble_eq_true rfl) (dc tbX3_countOrders_0_k 30 rfl) ⟨Nat.le_of_ble_eq_true rfl, Nat.le_of_ble_eq_true rfl⟩ (fun H locs hI => ?_)
      refine lv_if_eq (tgt := 78) hx hb (dc tbX3_countOrders_0_k 31 rfl) rfl (fun c17 => ?_) (fun c17 => ?_)
      · have hf := ite_t c17 hf
        exact tX3_countOrders_b78 C hk0 hk1 hih9 hih32 x2 x3 x4 M hf _ _ _ hI (lv_sub hl [0, 1, 2, 3] rfl)
      · have hf := ite_f c17 hf
        refine lv_aload_n hx hb (dc tbX3_countOrders_0_k 32 rfl) rfl (lv_at hl 0 rfl) ?_
        refine gg3_9 hx hb hts hown hK hI hk0.1 q_t2_17 (dc tbX3_countOrders_0_k 33 rfl) ?_
        refine lv_iload_n hx hb (dc tbX3_countOrders_0_k 34 rfl) rfl (lv_at hl 2 rfl) ?_
        refine lv_dup2_11 hx hb (dc tbX3_countOrders_0_k 35 rfl) rfl rfl ?_
        obtain ⟨h18, hf⟩ := chk_s hf
        refine g_lald hx hb hK hI hk0.2.2.2.2.2.2.1 (okb_in h18) (dc tbX3_countOrders_0_k 36 rfl) ?_
        refine lv_aload_n hx hb (dc tbX3_countOrders_0_k 37 rfl) rfl (lv_at hl 0 rfl) ?_
        refine gg3_9 hx hb hts hown hK hI hk0.1 q_t2_17 (dc tbX3_countOrders_0_k 38 rfl) ?_
        refine lv_iload_n hx hb (dc tbX3_countOrders_0_k 39 rfl) rfl (lv_at hl 2 rfl) ?_
        refine lv_iload hx hb (dc tbX3_countOrders_1_k 0 rfl) (lv_at hl 3 rfl) ?_
        obtain ⟨r20, q19, hf⟩ := cap_s hf
        refine g_callSi hx hb hml hown hts hK hap hsx hI (tX3_setBehind l  q19 H.size) cs_X3_setBehind q_t3_101 rfl rfl ⟨Nat.le_of_ble_eq_true rfl, Nat.le_of_ble_eq_true rfl⟩ rfl hl.1 rfl (Nat.le_of_ble_eq_true rfl) (dc tbX3_countOrders_1_k 1 rfl) ⟨Nat.le_of_ble_eq_true rfl, Nat.le_of_ble_eq_true rfl⟩ (fun H locs hI => ?_)
        obtain ⟨h22, hf⟩ := chk_s hf
        refine g_lald hx hb hK hI hk0.2.2.2.2.2.2.1 (okb_in h22) (dc tbX3_countOrders_1_k 2 rfl) ?_
        refine lv_ladd hx hb (dc tbX3_countOrders_1_k 3 rfl) ?_
        obtain ⟨h23, hf⟩ := chk_s hf
        obtain ⟨M25, e24, hf⟩ := bnd_s hf
        refine g_last hx hb hK hap hI hk0.2.2.2.2.2.2.1 (okb_in h23) (dc tbX3_countOrders_1_k 4 rfl) e24 (fun H locs hI => ?_)
        exact tX3_countOrders_b78 C hk0 hk1 hih9 hih32 x2 x3 x4 M25 hf _ _ _ hI (lv_sub hl [0, 1, 2, 3] rfl)
def mX3_countOrders_l32 (k0 : Nat) (k1 : Nat) (ih9 : Int32 → Int32 → Mem → Option (Mem × Unit)) : Nat → Int32 → Int32 → Int32 → Mem → Option (Mem × Unit)
  | 0 => fun _ _ _ _ => none
  | n + 1 => mX3_countOrders_b32 k0 k1 ih9 (mX3_countOrders_l32 k0 k1 ih9 n)
theorem tX3_countOrders_l32 {p : Program} {l : Launch} {e : Env} {s : State} {m : MethodId} {args : Array Value} {below : List Frame} {meth : Method} {c : Code} {G : GT} {kd : Nat → Nat × Nat} {ad : Nat → Nat} (C : Cx p s m args meth c cX3_countOrders 5 none RX3 G kd ad) {k0 : Nat} {k1 : Nat} (hk0 : kPlanner kd k0) (hk1 : kPart kd k1) {MO : Mem} {vo : Unit} {ih9 : Int32 → Int32 → Mem → Option (Mem × Unit)} (hih9 : ∀ (x2 : Int32) (x3 : Int32) (M : Mem), ih9 x2 x3 M = some (MO, vo) → At p l e (rmO 2 0 0) s m args below meth c 0 0 (MQ below (Qg G kd ad s.heap.size MO none) args s 0 0 (AS kd ad s.heap.size)) G kd ad 5 9 [(0, .ref (ad k0)), (2, .int x2), (3, .int x3)] [] M) : ∀ (fuel : Nat) (x2 : Int32) (x3 : Int32) (x4 : Int32) (M : Mem), mX3_countOrders_l32 k0 k1 ih9 fuel x2 x3 x4 M = some (MO, vo) → At p l e (rmO 2 0 0) s m args below meth c 0 0 (MQ below (Qg G kd ad s.heap.size MO none) args s 0 0 (AS kd ad s.heap.size)) G kd ad 5 32 [(0, .ref (ad k0)), (2, .int x2), (3, .int x3), (4, .int x4)] [] M := by
  intro fuel
  induction fuel with
  | zero => intro x2 x3 x4 M hf; cases hf
  | succ n IH => exact tX3_countOrders_b32 C hk0 hk1 hih9 IH
def mX3_countOrders_b28 (k0 : Nat) (k1 : Nat) (ih9 : Int32 → Int32 → Mem → Option (Mem × Unit)) (x2 : Int32) (x3 : Int32) (y1 : Int32) (y2 : Int64) (M : Mem) : Option (Mem × Unit) := chk (okb y1 256) (bnd (wl M (k0 + 19) (y1).toNatClampNeg y2) (fun M8 => mX3_countOrders_l32 k0 k1 ih9 5000 x2 x3 (0 : Int32) M8))
set_option maxHeartbeats 4000000 in
set_option maxRecDepth 100000 in
theorem tX3_countOrders_b28 {p : Program} {l : Launch} {e : Env} {s : State} {m : MethodId} {args : Array Value} {below : List Frame} {meth : Method} {c : Code} {G : GT} {kd : Nat → Nat × Nat} {ad : Nat → Nat} (C : Cx p s m args meth c cX3_countOrders 5 none RX3 G kd ad) {k0 : Nat} {k1 : Nat} (hk0 : kPlanner kd k0) (hk1 : kPart kd k1) {MO : Mem} {vo : Unit} {ih9 : Int32 → Int32 → Mem → Option (Mem × Unit)} (hih9 : ∀ (x2 : Int32) (x3 : Int32) (M : Mem), ih9 x2 x3 M = some (MO, vo) → At p l e (rmO 2 0 0) s m args below meth c 0 0 (MQ below (Qg G kd ad s.heap.size MO none) args s 0 0 (AS kd ad s.heap.size)) G kd ad 5 9 [(0, .ref (ad k0)), (2, .int x2), (3, .int x3)] [] M) : ∀ (x2 : Int32) (x3 : Int32) (y1 : Int32) (y2 : Int64) (M : Mem), mX3_countOrders_b28 k0 k1 ih9 x2 x3 y1 y2 M = some (MO, vo) → At p l e (rmO 2 0 0) s m args below meth c 0 0 (MQ below (Qg G kd ad s.heap.size MO none) args s 0 0 (AS kd ad s.heap.size)) G kd ad 5 28 [(0, .ref (ad k0)), (2, .int x2), (3, .int x3)] [.long y2, .int y1, .ref (ad (k0 + 19))] M := by
  intro x2 x3 y1 y2 M hf H locs ls hI hl
  obtain ⟨hx, hb, hml, hr, hown, hts, hlk, hK, hap, hsx⟩ := id C
  unfold mX3_countOrders_b28 at hf
  obtain ⟨h6, hf⟩ := chk_s hf
  obtain ⟨M8, e7, hf⟩ := bnd_s hf
  refine g_last hx hb hK hap hI hk0.2.2.2.2.2.2.1 (okb_in h6) (dc tbX3_countOrders_0_k 16 rfl) e7 (fun H locs hI => ?_)
  refine lv_iconst (v := 0) hx hb (dc tbX3_countOrders_0_k 17 rfl) ic_0 ?_
  refine lv_istore (lv' := [(4, .int (0 : Int32)), (0, .ref (ad k0)), (2, .int x2), (3, .int x3)]) hx hb (dc tbX3_countOrders_0_k 18 rfl) hl (by decide) rfl (fun ls hl => ?_)
  exact tX3_countOrders_l32 C hk0 hk1 hih9 5000 x2 x3 (0 : Int32) M8 hf _ _ _ hI (lv_sub hl [1, 2, 3, 0] rfl)
def mX3_countOrders_b9 (k0 : Nat) (k1 : Nat) (ih9 : Int32 → Int32 → Mem → Option (Mem × Unit)) (x2 : Int32) (x3 : Int32) (M : Mem) : Option (Mem × Unit) := ite2 (x3 < 0) (some (M, ())) (ite2 (x3 = x2) (mX3_countOrders_b28 k0 k1 ih9 x2 x3 x3 (1 : Int64) M) (mX3_countOrders_b28 k0 k1 ih9 x2 x3 x3 (0 : Int64) M))
set_option maxHeartbeats 4000000 in
set_option maxRecDepth 100000 in
theorem tX3_countOrders_b9 {p : Program} {l : Launch} {e : Env} {s : State} {m : MethodId} {args : Array Value} {below : List Frame} {meth : Method} {c : Code} {G : GT} {kd : Nat → Nat × Nat} {ad : Nat → Nat} (C : Cx p s m args meth c cX3_countOrders 5 none RX3 G kd ad) {k0 : Nat} {k1 : Nat} (hk0 : kPlanner kd k0) (hk1 : kPart kd k1) {MO : Mem} {vo : Unit} {ih9 : Int32 → Int32 → Mem → Option (Mem × Unit)} (hih9 : ∀ (x2 : Int32) (x3 : Int32) (M : Mem), ih9 x2 x3 M = some (MO, vo) → At p l e (rmO 2 0 0) s m args below meth c 0 0 (MQ below (Qg G kd ad s.heap.size MO none) args s 0 0 (AS kd ad s.heap.size)) G kd ad 5 9 [(0, .ref (ad k0)), (2, .int x2), (3, .int x3)] [] M) : ∀ (x2 : Int32) (x3 : Int32) (M : Mem), mX3_countOrders_b9 k0 k1 ih9 x2 x3 M = some (MO, vo) → At p l e (rmO 2 0 0) s m args below meth c 0 0 (MQ below (Qg G kd ad s.heap.size MO none) args s 0 0 (AS kd ad s.heap.size)) G kd ad 5 9 [(0, .ref (ad k0)), (2, .int x2), (3, .int x3)] [] M := by
  intro x2 x3 M hf H locs ls hI hl
  obtain ⟨hx, hb, hml, hr, hown, hts, hlk, hK, hap, hsx⟩ := id C
  unfold mX3_countOrders_b9 at hf
  refine lv_iload_n hx hb (dc tbX3_countOrders_0_k 5 rfl) rfl (lv_at hl 2 rfl) ?_
  refine lv_if_lt (tgt := 90) hx hb (dc tbX3_countOrders_0_k 6 rfl) rfl (fun c4 => ?_) (fun c4 => ?_)
  · have hf := ite_t c4 hf
    cases hf
    exact g_vret hx hb hr hlk hI (dc tbX3_countOrders_1_k 9 rfl)
  · have hf := ite_f c4 hf
    refine lv_aload_n hx hb (dc tbX3_countOrders_0_k 7 rfl) rfl (lv_at hl 0 rfl) ?_
    refine gg3_9 hx hb hts hown hK hI hk0.1 q_t2_17 (dc tbX3_countOrders_0_k 8 rfl) ?_
    refine lv_iload_n hx hb (dc tbX3_countOrders_0_k 9 rfl) rfl (lv_at hl 2 rfl) ?_
    refine lv_iload_n hx hb (dc tbX3_countOrders_0_k 10 rfl) rfl (lv_at hl 2 rfl) ?_
    refine lv_iload_n hx hb (dc tbX3_countOrders_0_k 11 rfl) rfl (lv_at hl 1 rfl) ?_
    refine lv_icmp_ne (tgt := 27) hx hb (dc tbX3_countOrders_0_k 12 rfl) rfl (fun c5 => ?_) (fun c5 => ?_)
    · have hf := ite_f c5 hf
      refine lv_lconst (v := 0) hx hb (dc tbX3_countOrders_0_k 15 rfl) (by decide) ?_
      exact tX3_countOrders_b28 C hk0 hk1 hih9 x2 x3 x3 (0 : Int64) M hf _ _ _ hI (lv_sub hl [0, 1, 2] rfl)
    · have hf := ite_t c5 hf
      refine lv_lconst (v := 1) hx hb (dc tbX3_countOrders_0_k 13 rfl) (by decide) ?_
      refine lv_goto (tgt := 28) hx hb (dc tbX3_countOrders_0_k 14 rfl) rfl ?_
      exact tX3_countOrders_b28 C hk0 hk1 hih9 x2 x3 x3 (1 : Int64) M hf _ _ _ hI (lv_sub hl [0, 1, 2] rfl)
def mX3_countOrders_l9 (k0 : Nat) (k1 : Nat) : Nat → Int32 → Int32 → Mem → Option (Mem × Unit)
  | 0 => fun _ _ _ => none
  | n + 1 => mX3_countOrders_b9 k0 k1 (mX3_countOrders_l9 k0 k1 n)
theorem tX3_countOrders_l9 {p : Program} {l : Launch} {e : Env} {s : State} {m : MethodId} {args : Array Value} {below : List Frame} {meth : Method} {c : Code} {G : GT} {kd : Nat → Nat × Nat} {ad : Nat → Nat} (C : Cx p s m args meth c cX3_countOrders 5 none RX3 G kd ad) {k0 : Nat} {k1 : Nat} (hk0 : kPlanner kd k0) (hk1 : kPart kd k1) {MO : Mem} {vo : Unit}   : ∀ (fuel : Nat) (x2 : Int32) (x3 : Int32) (M : Mem), mX3_countOrders_l9 k0 k1 fuel x2 x3 M = some (MO, vo) → At p l e (rmO 2 0 0) s m args below meth c 0 0 (MQ below (Qg G kd ad s.heap.size MO none) args s 0 0 (AS kd ad s.heap.size)) G kd ad 5 9 [(0, .ref (ad k0)), (2, .int x2), (3, .int x3)] [] M := by
  intro fuel
  induction fuel with
  | zero => intro x2 x3 M hf; cases hf
  | succ n IH => exact tX3_countOrders_b9 C hk0 hk1 IH
def mX3_countOrders (k0 : Nat) (k1 : Nat) (M : Mem) : Option (Mem × Unit) := cap (mX1_allBends k1 M) (fun r2 => mX3_countOrders_l9 k0 k1 5000 r2 (255 : Int32) M)
set_option maxHeartbeats 4000000 in
set_option maxRecDepth 100000 in
theorem tX3_countOrders (l : Launch) {G : GT} {kd : Nat → Nat × Nat} {ad : Nat → Nat} {k0 : Nat} {k1 : Nat} (hk0 : kPlanner kd k0) (hk1 : kPart kd k1) {M : Mem} {MO : Mem} {vo : Unit} (hf : mX3_countOrders k0 k1 M = some (MO, vo)) (n : Nat) : Met l yX3_countOrders (Cond.code yX3_countOrders cX3_countOrders 5 none :: WA) (rmO 2 0 0) (Pg G kd ad n [.ref (ad k0), .ref (ad k1)] M) (Qg G kd ad n MO none) 0 0 (AS kd ad n) := by
  refine g_body (own := RX3) (by decide) rfl ?_ (Nat.le_of_ble_eq_true rfl)
  intro p e s m args below meth c C _ H locs ls hI hl
  obtain ⟨hx, hb, hml, hr, hown, hts, hlk, hK, hap, hsx⟩ := id C
  have hl : lv_has ls 5 [(0, .ref (ad k0)), (1, .ref (ad k1))] := hl
  unfold mX3_countOrders at hf
  refine lv_aload_n hx hb (dc tbX3_countOrders_0_k 0 rfl) rfl (lv_at hl 1 rfl) ?_
  obtain ⟨r2, q1, hf⟩ := cap_s hf
  refine g_callVi hx hb hml hown hts hK hap hsx hI (tX1_allBends l hk1 q1 H.size) cv_X1_allBends q_t3_108 rfl rfl ⟨Nat.le_of_ble_eq_true rfl, Nat.le_of_ble_eq_true rfl⟩ hk1.1 (by simp) rfl rfl rfl hl.1 rfl (Nat.le_of_ble_eq_true rfl) (dc tbX3_countOrders_0_k 1 rfl) ⟨Nat.le_of_ble_eq_true rfl, Nat.le_of_ble_eq_true rfl⟩ (fun H locs hI => ?_)
  refine lv_istore_n (lv' := [(2, .int r2), (0, .ref (ad k0)), (1, .ref (ad k1))]) hx hb (dc tbX3_countOrders_0_k 2 rfl) rfl hl (by decide) rfl (fun ls hl => ?_)
  refine lv_sipush (v := 255) hx hb (dc tbX3_countOrders_0_k 3 rfl) sp_255 ?_
  refine lv_istore_n (lv' := [(3, .int (255 : Int32)), (2, .int r2), (0, .ref (ad k0)), (1, .ref (ad k1))]) hx hb (dc tbX3_countOrders_0_k 4 rfl) rfl hl (by decide) rfl (fun ls hl => ?_)
  exact tX3_countOrders_l9 C hk0 hk1 5000 r2 (255 : Int32) M hf _ _ _ hI (lv_sub hl [2, 1, 0] rfl)
theorem cv_X3_countOrders : cvF RX3 yX3_countOrders cX3_countOrders 5 none 1 := ⟨q_t3_106, q_s1_10, q_t1_6, q_t3_107, by decide +kernel⟩
def mX3_costThrough_b48 (k0 : Nat) (k1 : Nat) (M : Mem) (x2 : Int32) (x3 : Int32) (x4 : Int32) (x5 : Int32) (y0 : Int32) : Option Int32 := ite2 (y0 = (-1 : Int32)) (some (-1 : Int32)) (chk (okb ((x2 * (16 : Int32)) + x5) 4096) (cap (mX1_priceBetween k1 x3 x4 x5 (rd M (k0 + 20) (((x2 * (16 : Int32)) + x5)).toNatClampNeg) M) (fun r14 => some (y0 + r14))))
set_option maxHeartbeats 4000000 in
set_option maxRecDepth 100000 in
theorem tX3_costThrough_b48 {p : Program} {l : Launch} {e : Env} {s : State} {m : MethodId} {args : Array Value} {below : List Frame} {meth : Method} {c : Code} {G : GT} {kd : Nat → Nat × Nat} {ad : Nat → Nat} (C : Cx p s m args meth c cX3_costThrough 9 (some .int) RX3 G kd ad) {k0 : Nat} {k1 : Nat} (hk0 : kPlanner kd k0) (hk1 : kPart kd k1) {M : Mem} {vo : Int32}   : ∀ (x2 : Int32) (x3 : Int32) (x4 : Int32) (x5 : Int32) (y0 : Int32), mX3_costThrough_b48 k0 k1 M x2 x3 x4 x5 y0 = some vo → At p l e (rmO 2 0 0) s m args below meth c 0 0 (MQ below (Qg G kd ad s.heap.size M (some (.int vo))) args s 0 0 (AS kd ad s.heap.size)) G kd ad 9 48 [(0, .ref (ad k0)), (1, .ref (ad k1)), (2, .int x2), (3, .int x3), (4, .int x4), (5, .int x5)] [.int y0] M := by
  intro x2 x3 x4 x5 y0 hf H locs ls hI hl
  obtain ⟨hx, hb, hml, hr, hown, hts, hlk, hK, hap, hsx⟩ := id C
  unfold mX3_costThrough_b48 at hf
  refine lv_istore (lv' := [(8, .int y0), (0, .ref (ad k0)), (1, .ref (ad k1)), (2, .int x2), (3, .int x3), (4, .int x4), (5, .int x5)]) hx hb (dc tbX3_costThrough_0_k 26 rfl) hl (by decide) rfl (fun ls hl => ?_)
  refine lv_iload hx hb (dc tbX3_costThrough_0_k 27 rfl) (lv_at hl 0 rfl) ?_
  refine lv_iconst (v := -1) hx hb (dc tbX3_costThrough_0_k 28 rfl) ic_m1 ?_
  refine lv_icmp_ne (tgt := 58) hx hb (dc tbX3_costThrough_0_k 29 rfl) rfl (fun c11 => ?_) (fun c11 => ?_)
  · have hf := ite_f c11 hf
    refine lv_iload hx hb (dc tbX3_costThrough_0_k 32 rfl) (lv_at hl 0 rfl) ?_
    refine lv_aload_n hx hb (dc tbX3_costThrough_0_k 33 rfl) rfl (lv_at hl 2 rfl) ?_
    refine lv_iload_n hx hb (dc tbX3_costThrough_0_k 34 rfl) rfl (lv_at hl 4 rfl) ?_
    refine lv_iload hx hb (dc tbX3_costThrough_0_k 35 rfl) (lv_at hl 5 rfl) ?_
    refine lv_iload hx hb (dc tbX3_costThrough_0_k 36 rfl) (lv_at hl 6 rfl) ?_
    refine lv_aload_n hx hb (dc tbX3_costThrough_0_k 37 rfl) rfl (lv_at hl 1 rfl) ?_
    refine gg3_10 hx hb hts hown hK hI hk0.1 q_t2_18 (dc tbX3_costThrough_0_k 38 rfl) ?_
    refine lv_iload_n hx hb (dc tbX3_costThrough_0_k 39 rfl) rfl (lv_at hl 3 rfl) ?_
    refine lv_bipush (v := 16) hx hb (dc tbX3_costThrough_1_k 0 rfl) bp_16 ?_
    refine lv_imul hx hb (dc tbX3_costThrough_1_k 1 rfl) ?_
    refine lv_iload hx hb (dc tbX3_costThrough_1_k 2 rfl) (lv_at hl 6 rfl) ?_
    refine lv_iadd hx hb (dc tbX3_costThrough_1_k 3 rfl) ?_
    obtain ⟨h12, hf⟩ := chk_s hf
    refine g_iald hx hb hK hI hk0.2.2.2.2.2.2.2.1 (okb_in h12) (dc tbX3_costThrough_1_k 4 rfl) ?_
    obtain ⟨r14, q13, hf⟩ := cap_s hf
    refine g_callVi hx hb hml hown hts hK hap hsx hI (tX1_priceBetween l hk1 q13 H.size) cv_X1_priceBetween q_t3_125 rfl rfl ⟨Nat.le_of_ble_eq_true rfl, Nat.le_of_ble_eq_true rfl⟩ hk1.1 (by simp) rfl rfl rfl hl.1 rfl (Nat.le_of_ble_eq_true rfl) (dc tbX3_costThrough_1_k 5 rfl) ⟨Nat.le_of_ble_eq_true rfl, Nat.le_of_ble_eq_true rfl⟩ (fun H locs hI => ?_)
    refine lv_iadd hx hb (dc tbX3_costThrough_1_k 6 rfl) ?_
    cases hf
    exact g_iret hx hb hr hlk hI (dc tbX3_costThrough_1_k 7 rfl)
  · have hf := ite_t c11 hf
    refine lv_iconst (v := -1) hx hb (dc tbX3_costThrough_0_k 30 rfl) ic_m1 ?_
    cases hf
    exact g_iret hx hb hr hlk hI (dc tbX3_costThrough_0_k 31 rfl)
def mX3_costThrough (k0 : Nat) (k1 : Nat) (x2 : Int32) (x3 : Int32) (x4 : Int32) (x5 : Int32) (x6 : Int32) (M : Mem) : Option Int32 := cap (mX3_isOpen k0 x2 x5 M) (fun r2 => ite2 (r2 = 0) (some (-1 : Int32)) (cap (mX3_setBehind x2 x5 M) (fun r6 => bnd (((r6 * (16 : Int32)) + x5)) (fun x7_24 => ite2 (x6 = 0) (chk (okb x7_24 4096) (mX3_costThrough_b48 k0 k1 M x2 x3 x4 x5 (rd M (k0 + 22) (x7_24).toNatClampNeg))) (chk (okb x7_24 4096) (mX3_costThrough_b48 k0 k1 M x2 x3 x4 x5 (rd M (k0 + 21) (x7_24).toNatClampNeg)))))))
set_option maxHeartbeats 4000000 in
set_option maxRecDepth 100000 in
theorem tX3_costThrough (l : Launch) {G : GT} {kd : Nat → Nat × Nat} {ad : Nat → Nat} {k0 : Nat} {k1 : Nat} (hk0 : kPlanner kd k0) (hk1 : kPart kd k1) {x2 : Int32} {x3 : Int32} {x4 : Int32} {x5 : Int32} {x6 : Int32} {M : Mem} {vo : Int32} (hf : mX3_costThrough k0 k1 x2 x3 x4 x5 x6 M = some vo) (n : Nat) : Met l yX3_costThrough (Cond.code yX3_costThrough cX3_costThrough 9 (some .int) :: WA) (rmO 2 0 0) (Pg G kd ad n [.ref (ad k0), .ref (ad k1), .int x2, .int x3, .int x4, .int x5, .int x6] M) (Qg G kd ad n M (some (.int vo))) 0 0 (AS kd ad n) := by
  refine g_body (own := RX3) (by decide) rfl ?_ (Nat.le_of_ble_eq_true rfl)
  intro p e s m args below meth c C _ H locs ls hI hl
  obtain ⟨hx, hb, hml, hr, hown, hts, hlk, hK, hap, hsx⟩ := id C
  have hl : lv_has ls 9 [(0, .ref (ad k0)), (1, .ref (ad k1)), (2, .int x2), (3, .int x3), (4, .int x4), (5, .int x5), (6, .int x6)] := hl
  unfold mX3_costThrough at hf
  refine lv_aload_n hx hb (dc tbX3_costThrough_0_k 0 rfl) rfl (lv_at hl 0 rfl) ?_
  refine lv_iload_n hx hb (dc tbX3_costThrough_0_k 1 rfl) rfl (lv_at hl 2 rfl) ?_
  refine lv_iload hx hb (dc tbX3_costThrough_0_k 2 rfl) (lv_at hl 5 rfl) ?_
  obtain ⟨r2, q1, hf⟩ := cap_s hf
  refine g_callVi hx hb hml hown hts hK hap hsx hI (tX3_isOpen l hk0 q1 H.size) cv_X3_isOpen q_t3_97 rfl rfl ⟨Nat.le_of_ble_eq_true rfl, Nat.le_of_ble_eq_true rfl⟩ hk0.1 (by simp) rfl rfl rfl hl.1 rfl (Nat.le_of_ble_eq_true rfl) (dc tbX3_costThrough_0_k 3 rfl) ⟨Nat.le_of_ble_eq_true rfl, Nat.le_of_ble_eq_true rfl⟩ (fun H locs hI => ?_)
  refine lv_if_ne (tgt := 12) hx hb (dc tbX3_costThrough_0_k 4 rfl) rfl (fun c4 => ?_) (fun c4 => ?_)
  · have hf := ite_f c4 hf
    refine lv_iload_n hx hb (dc tbX3_costThrough_0_k 7 rfl) rfl (lv_at hl 2 rfl) ?_
    refine lv_iload hx hb (dc tbX3_costThrough_0_k 8 rfl) (lv_at hl 5 rfl) ?_
    obtain ⟨r6, q5, hf⟩ := cap_s hf
    refine g_callSi hx hb hml hown hts hK hap hsx hI (tX3_setBehind l  q5 H.size) cs_X3_setBehind q_t3_101 rfl rfl ⟨Nat.le_of_ble_eq_true rfl, Nat.le_of_ble_eq_true rfl⟩ rfl hl.1 rfl (Nat.le_of_ble_eq_true rfl) (dc tbX3_costThrough_0_k 9 rfl) ⟨Nat.le_of_ble_eq_true rfl, Nat.le_of_ble_eq_true rfl⟩ (fun H locs hI => ?_)
    refine lv_bipush (v := 16) hx hb (dc tbX3_costThrough_0_k 10 rfl) bp_16 ?_
    refine lv_imul hx hb (dc tbX3_costThrough_0_k 11 rfl) ?_
    refine lv_iload hx hb (dc tbX3_costThrough_0_k 12 rfl) (lv_at hl 5 rfl) ?_
    refine lv_iadd hx hb (dc tbX3_costThrough_0_k 13 rfl) ?_
    obtain ⟨x7_24, e8, hf⟩ := bnd_s hf
    refine lv_ei e8 ?_
    refine lv_istore (lv' := [(7, .int x7_24), (0, .ref (ad k0)), (1, .ref (ad k1)), (2, .int x2), (3, .int x3), (4, .int x4), (5, .int x5), (6, .int x6)]) hx hb (dc tbX3_costThrough_0_k 14 rfl) hl (by decide) rfl (fun ls hl => ?_)
    refine lv_iload hx hb (dc tbX3_costThrough_0_k 15 rfl) (lv_at hl 7 rfl) ?_
    refine lv_if_eq (tgt := 41) hx hb (dc tbX3_costThrough_0_k 16 rfl) rfl (fun c9 => ?_) (fun c9 => ?_)
    · have hf := ite_t c9 hf
      refine lv_aload_n hx hb (dc tbX3_costThrough_0_k 22 rfl) rfl (lv_at hl 1 rfl) ?_
      refine gg3_12 hx hb hts hown hK hI hk0.1 q_t2_20 (dc tbX3_costThrough_0_k 23 rfl) ?_
      refine lv_iload hx hb (dc tbX3_costThrough_0_k 24 rfl) (lv_at hl 0 rfl) ?_
      obtain ⟨h10, hf⟩ := chk_s hf
      refine g_iald hx hb hK hI hk0.2.2.2.2.2.2.2.2.2 (okb_in h10) (dc tbX3_costThrough_0_k 25 rfl) ?_
      exact tX3_costThrough_b48 C hk0 hk1 x2 x3 x4 x5 (rd M (k0 + 22) (x7_24).toNatClampNeg) hf _ _ _ hI (lv_sub hl [1, 2, 3, 4, 5, 6] rfl)
    · have hf := ite_f c9 hf
      refine lv_aload_n hx hb (dc tbX3_costThrough_0_k 17 rfl) rfl (lv_at hl 1 rfl) ?_
      refine gg3_11 hx hb hts hown hK hI hk0.1 q_t2_19 (dc tbX3_costThrough_0_k 18 rfl) ?_
      refine lv_iload hx hb (dc tbX3_costThrough_0_k 19 rfl) (lv_at hl 0 rfl) ?_
      obtain ⟨h16, hf⟩ := chk_s hf
      refine g_iald hx hb hK hI hk0.2.2.2.2.2.2.2.2.1 (okb_in h16) (dc tbX3_costThrough_0_k 20 rfl) ?_
      refine lv_goto (tgt := 48) hx hb (dc tbX3_costThrough_0_k 21 rfl) rfl ?_
      exact tX3_costThrough_b48 C hk0 hk1 x2 x3 x4 x5 (rd M (k0 + 21) (x7_24).toNatClampNeg) hf _ _ _ hI (lv_sub hl [1, 2, 3, 4, 5, 6] rfl)
  · have hf := ite_t c4 hf
    refine lv_iconst (v := -1) hx hb (dc tbX3_costThrough_0_k 5 rfl) ic_m1 ?_
    cases hf
    exact g_iret hx hb hr hlk hI (dc tbX3_costThrough_0_k 6 rfl)
theorem cv_X3_costThrough : cvF RX3 yX3_costThrough cX3_costThrough 9 (some .int) 6 := ⟨q_t3_123, q_s1_14, q_t1_6, q_t3_124, by decide +kernel⟩
def mX3_costOnward_b88 (k0 : Nat) (k1 : Nat) (M : Mem) (ih16 : Int32 → Int32 → Int32 → Int32 → Int32 → Int32 → Option Int32) (x2 : Int32) (x3 : Int32) (x4 : Int32) (x5 : Int32) (x6 : Int32) (x7 : Int32) : Option Int32 := bnd (x7 + (1 : Int32)) (fun x7_88 => ih16 x2 x3 x4 x5 x6 x7_88)
set_option maxHeartbeats 4000000 in
set_option maxRecDepth 100000 in
theorem tX3_costOnward_b88 {p : Program} {l : Launch} {e : Env} {s : State} {m : MethodId} {args : Array Value} {below : List Frame} {meth : Method} {c : Code} {G : GT} {kd : Nat → Nat × Nat} {ad : Nat → Nat} (C : Cx p s m args meth c cX3_costOnward 10 (some .int) RX3 G kd ad) {k0 : Nat} {k1 : Nat} (hk0 : kPlanner kd k0) (hk1 : kPart kd k1) {M : Mem} {vo : Int32} {ih16 : Int32 → Int32 → Int32 → Int32 → Int32 → Int32 → Option Int32} (hih16 : ∀ (x2 : Int32) (x3 : Int32) (x4 : Int32) (x5 : Int32) (x6 : Int32) (x7 : Int32), ih16 x2 x3 x4 x5 x6 x7 = some vo → At p l e (rmO 3 0 0) s m args below meth c 0 0 (MQ below (Qg G kd ad s.heap.size M (some (.int vo))) args s 0 0 (AS kd ad s.heap.size)) G kd ad 10 16 [(0, .ref (ad k0)), (1, .ref (ad k1)), (2, .int x2), (3, .int x3), (4, .int x4), (5, .int x5), (6, .int x6), (7, .int x7)] [] M) : ∀ (x2 : Int32) (x3 : Int32) (x4 : Int32) (x5 : Int32) (x6 : Int32) (x7 : Int32), mX3_costOnward_b88 k0 k1 M ih16 x2 x3 x4 x5 x6 x7 = some vo → At p l e (rmO 3 0 0) s m args below meth c 0 0 (MQ below (Qg G kd ad s.heap.size M (some (.int vo))) args s 0 0 (AS kd ad s.heap.size)) G kd ad 10 88 [(0, .ref (ad k0)), (1, .ref (ad k1)), (2, .int x2), (3, .int x3), (4, .int x4), (5, .int x5), (6, .int x6), (7, .int x7)] [] M := by
  intro x2 x3 x4 x5 x6 x7 hf H locs ls hI hl
  obtain ⟨hx, hb, hml, hr, hown, hts, hlk, hK, hap, hsx⟩ := id C
  unfold mX3_costOnward_b88 at hf
  obtain ⟨x7_88, e11, hf⟩ := bnd_s hf
  refine lv_iinc (v := x7_88) (lv' := [(7, .int x7_88), (0, .ref (ad k0)), (1, .ref (ad k1)), (2, .int x2), (3, .int x3), (4, .int x4), (5, .int x5), (6, .int x6)]) hx hb (dc tbX3_costOnward_1_k 5 rfl) hl (k := 7) rfl (ii_e e11 ic_1) (by decide) rfl (fun ls hl => ?_)
  refine lv_goto (tgt := 16) hx hb (dc tbX3_costOnward_1_k 6 rfl) rfl ?_
  exact hih16 x2 x3 x4 x5 x6 x7_88 hf _ _ _ hI (lv_sub hl [1, 2, 3, 4, 5, 6, 7, 0] rfl)
def mX3_costOnward_b71 (k0 : Nat) (k1 : Nat) (M : Mem) (ih16 : Int32 → Int32 → Int32 → Int32 → Int32 → Int32 → Option Int32) (x2 : Int32) (x3 : Int32) (x4 : Int32) (x5 : Int32) (x6 : Int32) (x7 : Int32) (x8 : Int32) (y0 : Int32) : Option Int32 := ite2 (x8 = (-1 : Int32)) (mX3_costOnward_b88 k0 k1 M ih16 x2 x3 x4 x5 x6 x7) (ite2 (y0 = 0) (mX3_costOnward_b88 k0 k1 M ih16 x2 x3 x4 x5 x6 x7) (mX3_costOnward_b88 k0 k1 M ih16 x2 x3 x4 x5 x8 x7))
set_option maxHeartbeats 4000000 in
set_option maxRecDepth 100000 in
theorem tX3_costOnward_b71 {p : Program} {l : Launch} {e : Env} {s : State} {m : MethodId} {args : Array Value} {below : List Frame} {meth : Method} {c : Code} {G : GT} {kd : Nat → Nat × Nat} {ad : Nat → Nat} (C : Cx p s m args meth c cX3_costOnward 10 (some .int) RX3 G kd ad) {k0 : Nat} {k1 : Nat} (hk0 : kPlanner kd k0) (hk1 : kPart kd k1) {M : Mem} {vo : Int32} {ih16 : Int32 → Int32 → Int32 → Int32 → Int32 → Int32 → Option Int32} (hih16 : ∀ (x2 : Int32) (x3 : Int32) (x4 : Int32) (x5 : Int32) (x6 : Int32) (x7 : Int32), ih16 x2 x3 x4 x5 x6 x7 = some vo → At p l e (rmO 3 0 0) s m args below meth c 0 0 (MQ below (Qg G kd ad s.heap.size M (some (.int vo))) args s 0 0 (AS kd ad s.heap.size)) G kd ad 10 16 [(0, .ref (ad k0)), (1, .ref (ad k1)), (2, .int x2), (3, .int x3), (4, .int x4), (5, .int x5), (6, .int x6), (7, .int x7)] [] M) : ∀ (x2 : Int32) (x3 : Int32) (x4 : Int32) (x5 : Int32) (x6 : Int32) (x7 : Int32) (x8 : Int32) (y0 : Int32), mX3_costOnward_b71 k0 k1 M ih16 x2 x3 x4 x5 x6 x7 x8 y0 = some vo → At p l e (rmO 3 0 0) s m args below meth c 0 0 (MQ below (Qg G kd ad s.heap.size M (some (.int vo))) args s 0 0 (AS kd ad s.heap.size)) G kd ad 10 71 [(0, .ref (ad k0)), (1, .ref (ad k1)), (2, .int x2), (3, .int x3), (4, .int x4), (5, .int x5), (6, .int x6), (7, .int x7), (8, .int x8)] [.int y0] M := by
  intro x2 x3 x4 x5 x6 x7 x8 y0 hf H locs ls hI hl
  obtain ⟨hx, hb, hml, hr, hown, hts, hlk, hK, hap, hsx⟩ := id C
  unfold mX3_costOnward_b71 at hf
  refine lv_istore (lv' := [(9, .int y0), (0, .ref (ad k0)), (1, .ref (ad k1)), (2, .int x2), (3, .int x3), (4, .int x4), (5, .int x5), (6, .int x6), (7, .int x7), (8, .int x8)]) hx hb (dc tbX3_costOnward_0_k 37 rfl) hl (by decide) rfl (fun ls hl => ?_)
  refine lv_iload hx hb (dc tbX3_costOnward_0_k 38 rfl) (lv_at hl 9 rfl) ?_
  refine lv_iconst (v := -1) hx hb (dc tbX3_costOnward_0_k 39 rfl) ic_m1 ?_
  refine lv_icmp_eq (tgt := 88) hx hb (dc tbX3_costOnward_1_k 0 rfl) rfl (fun c10 => ?_) (fun c10 => ?_)
  · have hf := ite_t c10 hf
    exact tX3_costOnward_b88 C hk0 hk1 hih16 x2 x3 x4 x5 x6 x7 hf _ _ _ hI (lv_sub hl [1, 2, 3, 4, 5, 6, 7, 8] rfl)
  · have hf := ite_f c10 hf
    refine lv_iload hx hb (dc tbX3_costOnward_1_k 1 rfl) (lv_at hl 0 rfl) ?_
    refine lv_if_eq (tgt := 88) hx hb (dc tbX3_costOnward_1_k 2 rfl) rfl (fun c12 => ?_) (fun c12 => ?_)
    · have hf := ite_t c12 hf
      exact tX3_costOnward_b88 C hk0 hk1 hih16 x2 x3 x4 x5 x6 x7 hf _ _ _ hI (lv_sub hl [1, 2, 3, 4, 5, 6, 7, 8] rfl)
    · have hf := ite_f c12 hf
      refine lv_iload hx hb (dc tbX3_costOnward_1_k 3 rfl) (lv_at hl 9 rfl) ?_
      refine lv_istore (lv' := [(6, .int x8), (9, .int y0), (0, .ref (ad k0)), (1, .ref (ad k1)), (2, .int x2), (3, .int x3), (4, .int x4), (5, .int x5), (7, .int x7), (8, .int x8)]) hx hb (dc tbX3_costOnward_1_k 4 rfl) hl (by decide) rfl (fun ls hl => ?_)
      exact tX3_costOnward_b88 C hk0 hk1 hih16 x2 x3 x4 x5 x8 x7 hf _ _ _ hI (lv_sub hl [2, 3, 4, 5, 6, 7, 0, 8] rfl)
def mX3_costOnward_b66 (k0 : Nat) (k1 : Nat) (M : Mem) (ih16 : Int32 → Int32 → Int32 → Int32 → Int32 → Int32 → Option Int32) (x2 : Int32) (x3 : Int32) (x4 : Int32) (x5 : Int32) (x6 : Int32) (x7 : Int32) (x8 : Int32) : Option Int32 := mX3_costOnward_b71 k0 k1 M ih16 x2 x3 x4 x5 x6 x7 x8 (1 : Int32)
set_option maxHeartbeats 4000000 in
set_option maxRecDepth 100000 in
theorem tX3_costOnward_b66 {p : Program} {l : Launch} {e : Env} {s : State} {m : MethodId} {args : Array Value} {below : List Frame} {meth : Method} {c : Code} {G : GT} {kd : Nat → Nat × Nat} {ad : Nat → Nat} (C : Cx p s m args meth c cX3_costOnward 10 (some .int) RX3 G kd ad) {k0 : Nat} {k1 : Nat} (hk0 : kPlanner kd k0) (hk1 : kPart kd k1) {M : Mem} {vo : Int32} {ih16 : Int32 → Int32 → Int32 → Int32 → Int32 → Int32 → Option Int32} (hih16 : ∀ (x2 : Int32) (x3 : Int32) (x4 : Int32) (x5 : Int32) (x6 : Int32) (x7 : Int32), ih16 x2 x3 x4 x5 x6 x7 = some vo → At p l e (rmO 3 0 0) s m args below meth c 0 0 (MQ below (Qg G kd ad s.heap.size M (some (.int vo))) args s 0 0 (AS kd ad s.heap.size)) G kd ad 10 16 [(0, .ref (ad k0)), (1, .ref (ad k1)), (2, .int x2), (3, .int x3), (4, .int x4), (5, .int x5), (6, .int x6), (7, .int x7)] [] M) : ∀ (x2 : Int32) (x3 : Int32) (x4 : Int32) (x5 : Int32) (x6 : Int32) (x7 : Int32) (x8 : Int32), mX3_costOnward_b66 k0 k1 M ih16 x2 x3 x4 x5 x6 x7 x8 = some vo → At p l e (rmO 3 0 0) s m args below meth c 0 0 (MQ below (Qg G kd ad s.heap.size M (some (.int vo))) args s 0 0 (AS kd ad s.heap.size)) G kd ad 10 66 [(0, .ref (ad k0)), (1, .ref (ad k1)), (2, .int x2), (3, .int x3), (4, .int x4), (5, .int x5), (6, .int x6), (7, .int x7), (8, .int x8)] [] M := by
  intro x2 x3 x4 x5 x6 x7 x8 hf H locs ls hI hl
  obtain ⟨hx, hb, hml, hr, hown, hts, hlk, hK, hap, hsx⟩ := id C
  unfold mX3_costOnward_b66 at hf
  refine lv_iconst (v := 1) hx hb (dc tbX3_costOnward_0_k 34 rfl) ic_1 ?_
  refine lv_goto (tgt := 71) hx hb (dc tbX3_costOnward_0_k 35 rfl) rfl ?_
  exact tX3_costOnward_b71 C hk0 hk1 hih16 x2 x3 x4 x5 x6 x7 x8 (1 : Int32) hf _ _ _ hI (lv_sub hl [0, 1, 2, 3, 4, 5, 6, 7, 8] rfl)
def mX3_costOnward_b70 (k0 : Nat) (k1 : Nat) (M : Mem) (ih16 : Int32 → Int32 → Int32 → Int32 → Int32 → Int32 → Option Int32) (x2 : Int32) (x3 : Int32) (x4 : Int32) (x5 : Int32) (x6 : Int32) (x7 : Int32) (x8 : Int32) : Option Int32 := mX3_costOnward_b71 k0 k1 M ih16 x2 x3 x4 x5 x6 x7 x8 (0 : Int32)
set_option maxHeartbeats 4000000 in
set_option maxRecDepth 100000 in
theorem tX3_costOnward_b70 {p : Program} {l : Launch} {e : Env} {s : State} {m : MethodId} {args : Array Value} {below : List Frame} {meth : Method} {c : Code} {G : GT} {kd : Nat → Nat × Nat} {ad : Nat → Nat} (C : Cx p s m args meth c cX3_costOnward 10 (some .int) RX3 G kd ad) {k0 : Nat} {k1 : Nat} (hk0 : kPlanner kd k0) (hk1 : kPart kd k1) {M : Mem} {vo : Int32} {ih16 : Int32 → Int32 → Int32 → Int32 → Int32 → Int32 → Option Int32} (hih16 : ∀ (x2 : Int32) (x3 : Int32) (x4 : Int32) (x5 : Int32) (x6 : Int32) (x7 : Int32), ih16 x2 x3 x4 x5 x6 x7 = some vo → At p l e (rmO 3 0 0) s m args below meth c 0 0 (MQ below (Qg G kd ad s.heap.size M (some (.int vo))) args s 0 0 (AS kd ad s.heap.size)) G kd ad 10 16 [(0, .ref (ad k0)), (1, .ref (ad k1)), (2, .int x2), (3, .int x3), (4, .int x4), (5, .int x5), (6, .int x6), (7, .int x7)] [] M) : ∀ (x2 : Int32) (x3 : Int32) (x4 : Int32) (x5 : Int32) (x6 : Int32) (x7 : Int32) (x8 : Int32), mX3_costOnward_b70 k0 k1 M ih16 x2 x3 x4 x5 x6 x7 x8 = some vo → At p l e (rmO 3 0 0) s m args below meth c 0 0 (MQ below (Qg G kd ad s.heap.size M (some (.int vo))) args s 0 0 (AS kd ad s.heap.size)) G kd ad 10 70 [(0, .ref (ad k0)), (1, .ref (ad k1)), (2, .int x2), (3, .int x3), (4, .int x4), (5, .int x5), (6, .int x6), (7, .int x7), (8, .int x8)] [] M := by
  intro x2 x3 x4 x5 x6 x7 x8 hf H locs ls hI hl
  obtain ⟨hx, hb, hml, hr, hown, hts, hlk, hK, hap, hsx⟩ := id C
  unfold mX3_costOnward_b70 at hf
  refine lv_iconst (v := 0) hx hb (dc tbX3_costOnward_0_k 36 rfl) ic_0 ?_
  exact tX3_costOnward_b71 C hk0 hk1 hih16 x2 x3 x4 x5 x6 x7 x8 (0 : Int32) hf _ _ _ hI (lv_sub hl [0, 1, 2, 3, 4, 5, 6, 7, 8] rfl)
def mX3_costOnward_b16 (k0 : Nat) (k1 : Nat) (M : Mem) (ih16 : Int32 → Int32 → Int32 → Int32 → Int32 → Int32 → Option Int32) (x2 : Int32) (x3 : Int32) (x4 : Int32) (x5 : Int32) (x6 : Int32) (x7 : Int32) : Option Int32 := ite2 ((16 : Int32) ≤ x7) (some x6) (cap (mX3_costThrough k0 k1 x2 x3 x4 x7 x5 M) (fun r7 => ite2 (x6 = (-1 : Int32)) (mX3_costOnward_b66 k0 k1 M ih16 x2 x3 x4 x5 x6 x7 r7) (ite2 (x5 = 0) (ite2 (r7 ≤ x6) (mX3_costOnward_b70 k0 k1 M ih16 x2 x3 x4 x5 x6 x7 r7) (mX3_costOnward_b66 k0 k1 M ih16 x2 x3 x4 x5 x6 x7 r7)) (ite2 (x6 ≤ r7) (mX3_costOnward_b70 k0 k1 M ih16 x2 x3 x4 x5 x6 x7 r7) (mX3_costOnward_b66 k0 k1 M ih16 x2 x3 x4 x5 x6 x7 r7)))))
set_option maxHeartbeats 4000000 in
set_option maxRecDepth 100000 in
theorem tX3_costOnward_b16 {p : Program} {l : Launch} {e : Env} {s : State} {m : MethodId} {args : Array Value} {below : List Frame} {meth : Method} {c : Code} {G : GT} {kd : Nat → Nat × Nat} {ad : Nat → Nat} (C : Cx p s m args meth c cX3_costOnward 10 (some .int) RX3 G kd ad) {k0 : Nat} {k1 : Nat} (hk0 : kPlanner kd k0) (hk1 : kPart kd k1) {M : Mem} {vo : Int32} {ih16 : Int32 → Int32 → Int32 → Int32 → Int32 → Int32 → Option Int32} (hih16 : ∀ (x2 : Int32) (x3 : Int32) (x4 : Int32) (x5 : Int32) (x6 : Int32) (x7 : Int32), ih16 x2 x3 x4 x5 x6 x7 = some vo → At p l e (rmO 3 0 0) s m args below meth c 0 0 (MQ below (Qg G kd ad s.heap.size M (some (.int vo))) args s 0 0 (AS kd ad s.heap.size)) G kd ad 10 16 [(0, .ref (ad k0)), (1, .ref (ad k1)), (2, .int x2), (3, .int x3), (4, .int x4), (5, .int x5), (6, .int x6), (7, .int x7)] [] M) : ∀ (x2 : Int32) (x3 : Int32) (x4 : Int32) (x5 : Int32) (x6 : Int32) (x7 : Int32), mX3_costOnward_b16 k0 k1 M ih16 x2 x3 x4 x5 x6 x7 = some vo → At p l e (rmO 3 0 0) s m args below meth c 0 0 (MQ below (Qg G kd ad s.heap.size M (some (.int vo))) args s 0 0 (AS kd ad s.heap.size)) G kd ad 10 16 [(0, .ref (ad k0)), (1, .ref (ad k1)), (2, .int x2), (3, .int x3), (4, .int x4), (5, .int x5), (6, .int x6), (7, .int x7)] [] M := by
  intro x2 x3 x4 x5 x6 x7 hf H locs ls hI hl
  obtain ⟨hx, hb, hml, hr, hown, hts, hlk, hK, hap, hsx⟩ := id C
  unfold mX3_costOnward_b16 at hf
  refine lv_iload hx hb (dc tbX3_costOnward_0_k 10 rfl) (lv_at hl 7 rfl) ?_
  refine lv_bipush (v := 16) hx hb (dc tbX3_costOnward_0_k 11 rfl) bp_16 ?_
  refine lv_icmp_ge (tgt := 94) hx hb (dc tbX3_costOnward_0_k 12 rfl) rfl (fun c5 => ?_) (fun c5 => ?_)
  · have hf := ite_t c5 hf
    refine lv_iload hx hb (dc tbX3_costOnward_1_k 7 rfl) (lv_at hl 6 rfl) ?_
    cases hf
    exact g_iret hx hb hr hlk hI (dc tbX3_costOnward_1_k 8 rfl)
  · have hf := ite_f c5 hf
    refine lv_aload_n hx hb (dc tbX3_costOnward_0_k 13 rfl) rfl (lv_at hl 0 rfl) ?_
    refine lv_aload_n hx hb (dc tbX3_costOnward_0_k 14 rfl) rfl (lv_at hl 1 rfl) ?_
    refine lv_iload_n hx hb (dc tbX3_costOnward_0_k 15 rfl) rfl (lv_at hl 2 rfl) ?_
    refine lv_iload_n hx hb (dc tbX3_costOnward_0_k 16 rfl) rfl (lv_at hl 3 rfl) ?_
    refine lv_iload hx hb (dc tbX3_costOnward_0_k 17 rfl) (lv_at hl 4 rfl) ?_
    refine lv_iload hx hb (dc tbX3_costOnward_0_k 18 rfl) (lv_at hl 7 rfl) ?_
    refine lv_iload hx hb (dc tbX3_costOnward_0_k 19 rfl) (lv_at hl 5 rfl) ?_
    obtain ⟨r7, q6, hf⟩ := cap_s hf
    refine g_callVi hx hb hml hown hts hK hap hsx hI (tX3_costThrough l hk0 hk1 q6 H.size) cv_X3_costThrough q_t3_121 rfl rfl ⟨Nat.le_of_ble_eq_true rfl, Nat.le_of_ble_eq_true rfl⟩ hk0.1 (by simp) rfl rfl rfl hl.1 rfl (Nat.le_of_ble_eq_true rfl) (dc tbX3_costOnward_0_k 20 rfl) ⟨Nat.le_of_ble_eq_true rfl, Nat.le_of_ble_eq_true rfl⟩ (fun H locs hI => ?_)
    refine lv_istore (lv' := [(8, .int r7), (0, .ref (ad k0)), (1, .ref (ad k1)), (2, .int x2), (3, .int x3), (4, .int x4), (5, .int x5), (6, .int x6), (7, .int x7)]) hx hb (dc tbX3_costOnward_0_k 21 rfl) hl (by decide) rfl (fun ls hl => ?_)
    refine lv_iload hx hb (dc tbX3_costOnward_0_k 22 rfl) (lv_at hl 7 rfl) ?_
    refine lv_iconst (v := -1) hx hb (dc tbX3_costOnward_0_k 23 rfl) ic_m1 ?_
    refine lv_icmp_eq (tgt := 66) hx hb (dc tbX3_costOnward_0_k 24 rfl) rfl (fun c9 => ?_) (fun c9 => ?_)
    · have hf := ite_t c9 hf
      exact tX3_costOnward_b66 C hk0 hk1 hih16 x2 x3 x4 x5 x6 x7 r7 hf _ _ _ hI (lv_sub hl [1, 2, 3, 4, 5, 6, 7, 8, 0] rfl)
    · have hf := ite_f c9 hf
      refine lv_iload hx hb (dc tbX3_costOnward_0_k 25 rfl) (lv_at hl 6 rfl) ?_
      refine lv_if_eq (tgt := 59) hx hb (dc tbX3_costOnward_0_k 26 rfl) rfl (fun c13 => ?_) (fun c13 => ?_)
      · have hf := ite_t c13 hf
        refine lv_iload hx hb (dc tbX3_costOnward_0_k 31 rfl) (lv_at hl 0 rfl) ?_
        refine lv_iload hx hb (dc tbX3_costOnward_0_k 32 rfl) (lv_at hl 7 rfl) ?_
        refine lv_icmp_le (tgt := 70) hx hb (dc tbX3_costOnward_0_k 33 rfl) rfl (fun c14 => ?_) (fun c14 => ?_)
        · have hf := ite_t c14 hf
          exact tX3_costOnward_b70 C hk0 hk1 hih16 x2 x3 x4 x5 x6 x7 r7 hf _ _ _ hI (lv_sub hl [1, 2, 3, 4, 5, 6, 7, 8, 0] rfl)
        · have hf := ite_f c14 hf
          exact tX3_costOnward_b66 C hk0 hk1 hih16 x2 x3 x4 x5 x6 x7 r7 hf _ _ _ hI (lv_sub hl [1, 2, 3, 4, 5, 6, 7, 8, 0] rfl)
      · have hf := ite_f c13 hf
        refine lv_iload hx hb (dc tbX3_costOnward_0_k 27 rfl) (lv_at hl 0 rfl) ?_
        refine lv_iload hx hb (dc tbX3_costOnward_0_k 28 rfl) (lv_at hl 7 rfl) ?_
        refine lv_icmp_ge (tgt := 70) hx hb (dc tbX3_costOnward_0_k 29 rfl) rfl (fun c15 => ?_) (fun c15 => ?_)
        · have hf := ite_t c15 hf
          exact tX3_costOnward_b70 C hk0 hk1 hih16 x2 x3 x4 x5 x6 x7 r7 hf _ _ _ hI (lv_sub hl [1, 2, 3, 4, 5, 6, 7, 8, 0] rfl)
        · have hf := ite_f c15 hf
          refine lv_goto (tgt := 66) hx hb (dc tbX3_costOnward_0_k 30 rfl) rfl ?_
          exact tX3_costOnward_b66 C hk0 hk1 hih16 x2 x3 x4 x5 x6 x7 r7 hf _ _ _ hI (lv_sub hl [1, 2, 3, 4, 5, 6, 7, 8, 0] rfl)
def mX3_costOnward_l16 (k0 : Nat) (k1 : Nat) (M : Mem) : Nat → Int32 → Int32 → Int32 → Int32 → Int32 → Int32 → Option Int32
  | 0 => fun _ _ _ _ _ _ => none
  | n + 1 => mX3_costOnward_b16 k0 k1 M (mX3_costOnward_l16 k0 k1 M n)
theorem tX3_costOnward_l16 {p : Program} {l : Launch} {e : Env} {s : State} {m : MethodId} {args : Array Value} {below : List Frame} {meth : Method} {c : Code} {G : GT} {kd : Nat → Nat × Nat} {ad : Nat → Nat} (C : Cx p s m args meth c cX3_costOnward 10 (some .int) RX3 G kd ad) {k0 : Nat} {k1 : Nat} (hk0 : kPlanner kd k0) (hk1 : kPart kd k1) {M : Mem} {vo : Int32}   : ∀ (fuel : Nat) (x2 : Int32) (x3 : Int32) (x4 : Int32) (x5 : Int32) (x6 : Int32) (x7 : Int32), mX3_costOnward_l16 k0 k1 M fuel x2 x3 x4 x5 x6 x7 = some vo → At p l e (rmO 3 0 0) s m args below meth c 0 0 (MQ below (Qg G kd ad s.heap.size M (some (.int vo))) args s 0 0 (AS kd ad s.heap.size)) G kd ad 10 16 [(0, .ref (ad k0)), (1, .ref (ad k1)), (2, .int x2), (3, .int x3), (4, .int x4), (5, .int x5), (6, .int x6), (7, .int x7)] [] M := by
  intro fuel
  induction fuel with
  | zero => intro x2 x3 x4 x5 x6 x7 hf; cases hf
  | succ n IH => exact tX3_costOnward_b16 C hk0 hk1 IH
def mX3_costOnward (k0 : Nat) (k1 : Nat) (x2 : Int32) (x3 : Int32) (x4 : Int32) (x5 : Int32) (M : Mem) : Option Int32 := cap (mX1_allBends k1 M) (fun r2 => ite2 (x2 = r2) (some (0 : Int32)) (mX3_costOnward_l16 k0 k1 M 5000 x2 x3 x4 x5 (-1 : Int32) (0 : Int32)))
set_option maxHeartbeats 4000000 in
set_option maxRecDepth 100000 in
theorem tX3_costOnward (l : Launch) {G : GT} {kd : Nat → Nat × Nat} {ad : Nat → Nat} {k0 : Nat} {k1 : Nat} (hk0 : kPlanner kd k0) (hk1 : kPart kd k1) {x2 : Int32} {x3 : Int32} {x4 : Int32} {x5 : Int32} {M : Mem} {vo : Int32} (hf : mX3_costOnward k0 k1 x2 x3 x4 x5 M = some vo) (n : Nat) : Met l yX3_costOnward (Cond.code yX3_costOnward cX3_costOnward 10 (some .int) :: WA) (rmO 3 0 0) (Pg G kd ad n [.ref (ad k0), .ref (ad k1), .int x2, .int x3, .int x4, .int x5] M) (Qg G kd ad n M (some (.int vo))) 0 0 (AS kd ad n) := by
  refine g_body (own := RX3) (by decide) rfl ?_ (Nat.le_of_ble_eq_true rfl)
  intro p e s m args below meth c C _ H locs ls hI hl
  obtain ⟨hx, hb, hml, hr, hown, hts, hlk, hK, hap, hsx⟩ := id C
  have hl : lv_has ls 10 [(0, .ref (ad k0)), (1, .ref (ad k1)), (2, .int x2), (3, .int x3), (4, .int x4), (5, .int x5)] := hl
  unfold mX3_costOnward at hf
  refine lv_iload_n hx hb (dc tbX3_costOnward_0_k 0 rfl) rfl (lv_at hl 2 rfl) ?_
  refine lv_aload_n hx hb (dc tbX3_costOnward_0_k 1 rfl) rfl (lv_at hl 1 rfl) ?_
  obtain ⟨r2, q1, hf⟩ := cap_s hf
  refine g_callVi hx hb hml hown hts hK hap hsx hI (tX1_allBends l hk1 q1 H.size) cv_X1_allBends q_t3_108 rfl rfl ⟨Nat.le_of_ble_eq_true rfl, Nat.le_of_ble_eq_true rfl⟩ hk1.1 (by simp) rfl rfl rfl hl.1 rfl (Nat.le_of_ble_eq_true rfl) (dc tbX3_costOnward_0_k 2 rfl) ⟨Nat.le_of_ble_eq_true rfl, Nat.le_of_ble_eq_true rfl⟩ (fun H locs hI => ?_)
  refine lv_icmp_ne (tgt := 10) hx hb (dc tbX3_costOnward_0_k 3 rfl) rfl (fun c4 => ?_) (fun c4 => ?_)
  · have hf := ite_f c4 hf
    refine lv_iconst (v := -1) hx hb (dc tbX3_costOnward_0_k 6 rfl) ic_m1 ?_
    refine lv_istore (lv' := [(6, .int (-1 : Int32)), (0, .ref (ad k0)), (1, .ref (ad k1)), (2, .int x2), (3, .int x3), (4, .int x4), (5, .int x5)]) hx hb (dc tbX3_costOnward_0_k 7 rfl) hl (by decide) rfl (fun ls hl => ?_)
    refine lv_iconst (v := 0) hx hb (dc tbX3_costOnward_0_k 8 rfl) ic_0 ?_
    refine lv_istore (lv' := [(7, .int (0 : Int32)), (6, .int (-1 : Int32)), (0, .ref (ad k0)), (1, .ref (ad k1)), (2, .int x2), (3, .int x3), (4, .int x4), (5, .int x5)]) hx hb (dc tbX3_costOnward_0_k 9 rfl) hl (by decide) rfl (fun ls hl => ?_)
    exact tX3_costOnward_l16 C hk0 hk1 5000 x2 x3 x4 x5 (-1 : Int32) (0 : Int32) hf _ _ _ hI (lv_sub hl [2, 3, 4, 5, 6, 7, 1, 0] rfl)
  · have hf := ite_t c4 hf
    refine lv_iconst (v := 0) hx hb (dc tbX3_costOnward_0_k 4 rfl) ic_0 ?_
    cases hf
    exact g_iret hx hb hr hlk hI (dc tbX3_costOnward_0_k 5 rfl)
theorem cv_X3_costOnward : cvF RX3 yX3_costOnward cX3_costOnward 10 (some .int) 5 := ⟨q_t3_119, q_s1_13, q_t1_6, q_t3_120, by decide +kernel⟩
def mX3_reckonCostsBehind_b101 (k0 : Nat) (k1 : Nat) (ih2 : Int32 → Int32 → Mem → Option (Mem × Unit)) (x2 : Int32) (x3 : Int32) (M : Mem) : Option (Mem × Unit) := bnd (x3 + (1 : Int32)) (fun x3_101 => ih2 x2 x3_101 M)
set_option maxHeartbeats 4000000 in
set_option maxRecDepth 100000 in
theorem tX3_reckonCostsBehind_b101 {p : Program} {l : Launch} {e : Env} {s : State} {m : MethodId} {args : Array Value} {below : List Frame} {meth : Method} {c : Code} {G : GT} {kd : Nat → Nat × Nat} {ad : Nat → Nat} (C : Cx p s m args meth c cX3_reckonCostsBehind 6 none RX3 G kd ad) {k0 : Nat} {k1 : Nat} (hk0 : kPlanner kd k0) (hk1 : kPart kd k1) {MO : Mem} {vo : Unit} {ih2 : Int32 → Int32 → Mem → Option (Mem × Unit)} (hih2 : ∀ (x2 : Int32) (x3 : Int32) (M : Mem), ih2 x2 x3 M = some (MO, vo) → At p l e (rmO 4 0 0) s m args below meth c 0 0 (MQ below (Qg G kd ad s.heap.size MO none) args s 0 0 (AS kd ad s.heap.size)) G kd ad 6 2 [(0, .ref (ad k0)), (1, .ref (ad k1)), (2, .int x2), (3, .int x3)] [] M) : ∀ (x2 : Int32) (x3 : Int32) (M : Mem), mX3_reckonCostsBehind_b101 k0 k1 ih2 x2 x3 M = some (MO, vo) → At p l e (rmO 4 0 0) s m args below meth c 0 0 (MQ below (Qg G kd ad s.heap.size MO none) args s 0 0 (AS kd ad s.heap.size)) G kd ad 6 101 [(0, .ref (ad k0)), (1, .ref (ad k1)), (2, .int x2), (3, .int x3)] [] M := by
  intro x2 x3 M hf H locs ls hI hl
  obtain ⟨hx, hb, hml, hr, hown, hts, hlk, hK, hap, hsx⟩ := id C
  unfold mX3_reckonCostsBehind_b101 at hf
  obtain ⟨x3_101, e4, hf⟩ := bnd_s hf
  refine lv_iinc (v := x3_101) (lv' := [(3, .int x3_101), (0, .ref (ad k0)), (1, .ref (ad k1)), (2, .int x2)]) hx hb (dc tbX3_reckonCostsBehind_1_k 27 rfl) hl (k := 3) rfl (ii_e e4 ic_1) (by decide) rfl (fun ls hl => ?_)
  refine lv_goto (tgt := 2) hx hb (dc tbX3_reckonCostsBehind_1_k 28 rfl) rfl ?_
  exact hih2 x2 x3_101 M hf _ _ _ hI (lv_sub hl [1, 2, 3, 0] rfl)
def mX3_reckonCostsBehind_b2 (k0 : Nat) (k1 : Nat) (ih2 : Int32 → Int32 → Mem → Option (Mem × Unit)) (x2 : Int32) (x3 : Int32) (M : Mem) : Option (Mem × Unit) := ite2 ((16 : Int32) ≤ x3) (some (M, ())) (bnd ((x2 &&& (((1 : Int32) <<< ((x3 >>> ((1 : Int32) &&& 31)) &&& 31)) ^^^ (-1 : Int32)))) (fun x4_17 => ite2 (x4_17 = x2) (mX3_reckonCostsBehind_b101 k0 k1 ih2 x2 x3 M) (chk (okb x4_17 256) (ite2 ((rd M (k0 + 18) (x4_17).toNatClampNeg) = 0) (mX3_reckonCostsBehind_b101 k0 k1 ih2 x2 x3 M) (cap (mX3_isOpen k0 x4_17 x3 M) (fun r8 => ite2 (r8 = 0) (mX3_reckonCostsBehind_b101 k0 k1 ih2 x2 x3 M) (chk (okb ((x4_17 * (16 : Int32)) + x3) 4096) (bnd ((rd M (k0 + 20) (((x4_17 * (16 : Int32)) + x3)).toNatClampNeg)) (fun x5_57 => cap (mX3_costOnward k0 k1 x2 x3 x5_57 (1 : Int32) M) (fun r14 => chk (okb ((x2 * (16 : Int32)) + x3) 4096) (bnd (wr M (k0 + 21) (((x2 * (16 : Int32)) + x3)).toNatClampNeg r14) (fun M18 => cap (mX3_costOnward k0 k1 x2 x3 x5_57 (0 : Int32) M18) (fun r20 => chk (okb ((x2 * (16 : Int32)) + x3) 4096) (bnd (wr M18 (k0 + 22) (((x2 * (16 : Int32)) + x3)).toNatClampNeg r20) (fun M24 => mX3_reckonCostsBehind_b101 k0 k1 ih2 x2 x3 M24)))))))))))))))
set_option maxHeartbeats 4000000 in
set_option maxRecDepth 100000 in
theorem tX3_reckonCostsBehind_b2 {p : Program} {l : Launch} {e : Env} {s : State} {m : MethodId} {args : Array Value} {below : List Frame} {meth : Method} {c : Code} {G : GT} {kd : Nat → Nat × Nat} {ad : Nat → Nat} (C : Cx p s m args meth c cX3_reckonCostsBehind 6 none RX3 G kd ad) {k0 : Nat} {k1 : Nat} (hk0 : kPlanner kd k0) (hk1 : kPart kd k1) {MO : Mem} {vo : Unit} {ih2 : Int32 → Int32 → Mem → Option (Mem × Unit)} (hih2 : ∀ (x2 : Int32) (x3 : Int32) (M : Mem), ih2 x2 x3 M = some (MO, vo) → At p l e (rmO 4 0 0) s m args below meth c 0 0 (MQ below (Qg G kd ad s.heap.size MO none) args s 0 0 (AS kd ad s.heap.size)) G kd ad 6 2 [(0, .ref (ad k0)), (1, .ref (ad k1)), (2, .int x2), (3, .int x3)] [] M) : ∀ (x2 : Int32) (x3 : Int32) (M : Mem), mX3_reckonCostsBehind_b2 k0 k1 ih2 x2 x3 M = some (MO, vo) → At p l e (rmO 4 0 0) s m args below meth c 0 0 (MQ below (Qg G kd ad s.heap.size MO none) args s 0 0 (AS kd ad s.heap.size)) G kd ad 6 2 [(0, .ref (ad k0)), (1, .ref (ad k1)), (2, .int x2), (3, .int x3)] [] M := by
  intro x2 x3 M hf H locs ls hI hl
  obtain ⟨hx, hb, hml, hr, hown, hts, hlk, hK, hap, hsx⟩ := id C
  unfold mX3_reckonCostsBehind_b2 at hf
  refine lv_iload_n hx hb (dc tbX3_reckonCostsBehind_0_k 2 rfl) rfl (lv_at hl 3 rfl) ?_
  refine lv_bipush (v := 16) hx hb (dc tbX3_reckonCostsBehind_0_k 3 rfl) bp_16 ?_
  refine lv_icmp_ge (tgt := 107) hx hb (dc tbX3_reckonCostsBehind_0_k 4 rfl) rfl (fun c1 => ?_) (fun c1 => ?_)
  · have hf := ite_t c1 hf
    cases hf
    exact g_vret hx hb hr hlk hI (dc tbX3_reckonCostsBehind_1_k 29 rfl)
  · have hf := ite_f c1 hf
    refine lv_iload_n hx hb (dc tbX3_reckonCostsBehind_0_k 5 rfl) rfl (lv_at hl 2 rfl) ?_
    refine lv_iconst (v := 1) hx hb (dc tbX3_reckonCostsBehind_0_k 6 rfl) ic_1 ?_
    refine lv_iload_n hx hb (dc tbX3_reckonCostsBehind_0_k 7 rfl) rfl (lv_at hl 3 rfl) ?_
    refine lv_iconst (v := 1) hx hb (dc tbX3_reckonCostsBehind_0_k 8 rfl) ic_1 ?_
    refine lv_ishr hx hb (dc tbX3_reckonCostsBehind_0_k 9 rfl) ?_
    refine lv_ishl hx hb (dc tbX3_reckonCostsBehind_0_k 10 rfl) ?_
    refine lv_iconst (v := -1) hx hb (dc tbX3_reckonCostsBehind_0_k 11 rfl) ic_m1 ?_
    refine lv_ixor hx hb (dc tbX3_reckonCostsBehind_0_k 12 rfl) ?_
    refine lv_iand hx hb (dc tbX3_reckonCostsBehind_0_k 13 rfl) ?_
    obtain ⟨x4_17, e2, hf⟩ := bnd_s hf
    refine lv_ei e2 ?_
    refine lv_istore (lv' := [(4, .int x4_17), (0, .ref (ad k0)), (1, .ref (ad k1)), (2, .int x2), (3, .int x3)]) hx hb (dc tbX3_reckonCostsBehind_0_k 14 rfl) hl (by decide) rfl (fun ls hl => ?_)
    refine lv_iload hx hb (dc tbX3_reckonCostsBehind_0_k 15 rfl) (lv_at hl 0 rfl) ?_
    refine lv_iload_n hx hb (dc tbX3_reckonCostsBehind_0_k 16 rfl) rfl (lv_at hl 3 rfl) ?_
    refine lv_icmp_eq (tgt := 101) hx hb (dc tbX3_reckonCostsBehind_0_k 17 rfl) rfl (fun c3 => ?_) (fun c3 => ?_)
    · have hf := ite_t c3 hf
      exact tX3_reckonCostsBehind_b101 C hk0 hk1 hih2 x2 x3 M hf _ _ _ hI (lv_sub hl [1, 2, 3, 4] rfl)
    · have hf := ite_f c3 hf
      refine lv_aload_n hx hb (dc tbX3_reckonCostsBehind_0_k 18 rfl) rfl (lv_at hl 1 rfl) ?_
      refine gg3_8 hx hb hts hown hK hI hk0.1 q_t2_16 (dc tbX3_reckonCostsBehind_0_k 19 rfl) ?_
      refine lv_iload hx hb (dc tbX3_reckonCostsBehind_0_k 20 rfl) (lv_at hl 0 rfl) ?_
      obtain ⟨h5, hf⟩ := chk_s hf
      refine g_zald hx hb hK hI hk0.2.2.2.2.2.1 (okb_in h5) (dc tbX3_reckonCostsBehind_0_k 21 rfl) ?_
      refine lv_if_eq (tgt := 101) hx hb (dc tbX3_reckonCostsBehind_0_k 22 rfl) rfl (fun c6 => ?_) (fun c6 => ?_)
      · have hf := ite_t c6 hf
        exact tX3_reckonCostsBehind_b101 C hk0 hk1 hih2 x2 x3 M hf _ _ _ hI (lv_sub hl [1, 2, 3, 4] rfl)
      · have hf := ite_f c6 hf
        refine lv_aload_n hx hb (dc tbX3_reckonCostsBehind_0_k 23 rfl) rfl (lv_at hl 1 rfl) ?_
        refine lv_iload hx hb (dc tbX3_reckonCostsBehind_0_k 24 rfl) (lv_at hl 0 rfl) ?_
        refine lv_iload_n hx hb (dc tbX3_reckonCostsBehind_0_k 25 rfl) rfl (lv_at hl 4 rfl) ?_
        obtain ⟨r8, q7, hf⟩ := cap_s hf
        refine g_callVi hx hb hml hown hts hK hap hsx hI (tX3_isOpen l hk0 q7 H.size) cv_X3_isOpen q_t3_97 rfl rfl ⟨Nat.le_of_ble_eq_true rfl, Nat.le_of_ble_eq_true rfl⟩ hk0.1 (by simp) rfl rfl rfl hl.1 rfl (Nat.le_of_ble_eq_true rfl) (dc tbX3_reckonCostsBehind_0_k 26 rfl) ⟨Nat.le_of_ble_eq_true rfl, Nat.le_of_ble_eq_true rfl⟩ (fun H locs hI => ?_)
        refine lv_if_eq (tgt := 101) hx hb (dc tbX3_reckonCostsBehind_0_k 27 rfl) rfl (fun c10 => ?_) (fun c10 => ?_)
        · have hf := ite_t c10 hf
          exact tX3_reckonCostsBehind_b101 C hk0 hk1 hih2 x2 x3 M hf _ _ _ hI (lv_sub hl [1, 2, 3, 4] rfl)
        · have hf := ite_f c10 hf
          refine lv_aload_n hx hb (dc tbX3_reckonCostsBehind_0_k 28 rfl) rfl (lv_at hl 1 rfl) ?_
          refine gg3_10 hx hb hts hown hK hI hk0.1 q_t2_18 (dc tbX3_reckonCostsBehind_0_k 29 rfl) ?_
          refine lv_iload hx hb (dc tbX3_reckonCostsBehind_0_k 30 rfl) (lv_at hl 0 rfl) ?_
          refine lv_bipush (v := 16) hx hb (dc tbX3_reckonCostsBehind_0_k 31 rfl) bp_16 ?_
          refine lv_imul hx hb (dc tbX3_reckonCostsBehind_0_k 32 rfl) ?_
          refine lv_iload_n hx hb (dc tbX3_reckonCostsBehind_0_k 33 rfl) rfl (lv_at hl 4 rfl) ?_
          refine lv_iadd hx hb (dc tbX3_reckonCostsBehind_0_k 34 rfl) ?_
          obtain ⟨h11, hf⟩ := chk_s hf
          refine g_iald hx hb hK hI hk0.2.2.2.2.2.2.2.1 (okb_in h11) (dc tbX3_reckonCostsBehind_0_k 35 rfl) ?_
          obtain ⟨x5_57, e12, hf⟩ := bnd_s hf
          refine lv_ei e12 ?_
          refine lv_istore (lv' := [(5, .int x5_57), (4, .int x4_17), (0, .ref (ad k0)), (1, .ref (ad k1)), (2, .int x2), (3, .int x3)]) hx hb (dc tbX3_reckonCostsBehind_0_k 36 rfl) hl (by decide) rfl (fun ls hl => ?_)
          refine lv_aload_n hx hb (dc tbX3_reckonCostsBehind_0_k 37 rfl) rfl (lv_at hl 2 rfl) ?_
          refine gg3_11 hx hb hts hown hK hI hk0.1 q_t2_19 (dc tbX3_reckonCostsBehind_0_k 38 rfl) ?_
          refine lv_iload_n hx hb (dc tbX3_reckonCostsBehind_0_k 39 rfl) rfl (lv_at hl 4 rfl) ?_
          refine lv_bipush (v := 16) hx hb (dc tbX3_reckonCostsBehind_1_k 0 rfl) bp_16 ?_
          refine lv_imul hx hb (dc tbX3_reckonCostsBehind_1_k 1 rfl) ?_
          refine lv_iload_n hx hb (dc tbX3_reckonCostsBehind_1_k 2 rfl) rfl (lv_at hl 5 rfl) ?_
          refine lv_iadd hx hb (dc tbX3_reckonCostsBehind_1_k 3 rfl) ?_
          refine lv_aload_n hx hb (dc tbX3_reckonCostsBehind_1_k 4 rfl) rfl (lv_at hl 2 rfl) ?_
          refine lv_aload_n hx hb (dc tbX3_reckonCostsBehind_1_k 5 rfl) rfl (lv_at hl 3 rfl) ?_
          refine lv_iload_n hx hb (dc tbX3_reckonCostsBehind_1_k 6 rfl) rfl (lv_at hl 4 rfl) ?_
          refine lv_iload_n hx hb (dc tbX3_reckonCostsBehind_1_k 7 rfl) rfl (lv_at hl 5 rfl) ?_
          refine lv_iload hx hb (dc tbX3_reckonCostsBehind_1_k 8 rfl) (lv_at hl 0 rfl) ?_
          refine lv_iconst (v := 1) hx hb (dc tbX3_reckonCostsBehind_1_k 9 rfl) ic_1 ?_
          obtain ⟨r14, q13, hf⟩ := cap_s hf
          refine g_callVi hx hb hml hown hts hK hap hsx hI (tX3_costOnward l hk0 hk1 q13 H.size) cv_X3_costOnward q_t3_117 rfl rfl ⟨Nat.le_of_ble_eq_true rfl, Nat.le_of_ble_eq_true rfl⟩ hk0.1 (by simp) rfl rfl rfl hl.1 rfl (Nat.le_of_ble_eq_true rfl) (dc tbX3_reckonCostsBehind_1_k 10 rfl) ⟨Nat.le_of_ble_eq_true rfl, Nat.le_of_ble_eq_true rfl⟩ (fun H locs hI => ?_)
          obtain ⟨h16, hf⟩ := chk_s hf
          obtain ⟨M18, e17, hf⟩ := bnd_s hf
          refine g_iast hx hb hK hap hI hk0.2.2.2.2.2.2.2.2.1 (okb_in h16) (dc tbX3_reckonCostsBehind_1_k 11 rfl) e17 (fun H locs hI => ?_)
          refine lv_aload_n hx hb (dc tbX3_reckonCostsBehind_1_k 12 rfl) rfl (lv_at hl 2 rfl) ?_
          refine gg3_12 hx hb hts hown hK hI hk0.1 q_t2_20 (dc tbX3_reckonCostsBehind_1_k 13 rfl) ?_
          refine lv_iload_n hx hb (dc tbX3_reckonCostsBehind_1_k 14 rfl) rfl (lv_at hl 4 rfl) ?_
          refine lv_bipush (v := 16) hx hb (dc tbX3_reckonCostsBehind_1_k 15 rfl) bp_16 ?_
          refine lv_imul hx hb (dc tbX3_reckonCostsBehind_1_k 16 rfl) ?_
          refine lv_iload_n hx hb (dc tbX3_reckonCostsBehind_1_k 17 rfl) rfl (lv_at hl 5 rfl) ?_
          refine lv_iadd hx hb (dc tbX3_reckonCostsBehind_1_k 18 rfl) ?_
          refine lv_aload_n hx hb (dc tbX3_reckonCostsBehind_1_k 19 rfl) rfl (lv_at hl 2 rfl) ?_
          refine lv_aload_n hx hb (dc tbX3_reckonCostsBehind_1_k 20 rfl) rfl (lv_at hl 3 rfl) ?_
          refine lv_iload_n hx hb (dc tbX3_reckonCostsBehind_1_k 21 rfl) rfl (lv_at hl 4 rfl) ?_
          refine lv_iload_n hx hb (dc tbX3_reckonCostsBehind_1_k 22 rfl) rfl (lv_at hl 5 rfl) ?_
          refine lv_iload hx hb (dc tbX3_reckonCostsBehind_1_k 23 rfl) (lv_at hl 0 rfl) ?_
          refine lv_iconst (v := 0) hx hb (dc tbX3_reckonCostsBehind_1_k 24 rfl) ic_0 ?_
          obtain ⟨r20, q19, hf⟩ := cap_s hf
          refine g_callVi hx hb hml hown hts hK hap hsx hI (tX3_costOnward l hk0 hk1 q19 H.size) cv_X3_costOnward q_t3_117 rfl rfl ⟨Nat.le_of_ble_eq_true rfl, Nat.le_of_ble_eq_true rfl⟩ hk0.1 (by simp) rfl rfl rfl hl.1 rfl (Nat.le_of_ble_eq_true rfl) (dc tbX3_reckonCostsBehind_1_k 25 rfl) ⟨Nat.le_of_ble_eq_true rfl, Nat.le_of_ble_eq_true rfl⟩ (fun H locs hI => ?_)
          obtain ⟨h22, hf⟩ := chk_s hf
          obtain ⟨M24, e23, hf⟩ := bnd_s hf
          refine g_iast hx hb hK hap hI hk0.2.2.2.2.2.2.2.2.2 (okb_in h22) (dc tbX3_reckonCostsBehind_1_k 26 rfl) e23 (fun H locs hI => ?_)
          exact tX3_reckonCostsBehind_b101 C hk0 hk1 hih2 x2 x3 M24 hf _ _ _ hI (lv_sub hl [2, 3, 4, 5] rfl)
def mX3_reckonCostsBehind_l2 (k0 : Nat) (k1 : Nat) : Nat → Int32 → Int32 → Mem → Option (Mem × Unit)
  | 0 => fun _ _ _ => none
  | n + 1 => mX3_reckonCostsBehind_b2 k0 k1 (mX3_reckonCostsBehind_l2 k0 k1 n)
theorem tX3_reckonCostsBehind_l2 {p : Program} {l : Launch} {e : Env} {s : State} {m : MethodId} {args : Array Value} {below : List Frame} {meth : Method} {c : Code} {G : GT} {kd : Nat → Nat × Nat} {ad : Nat → Nat} (C : Cx p s m args meth c cX3_reckonCostsBehind 6 none RX3 G kd ad) {k0 : Nat} {k1 : Nat} (hk0 : kPlanner kd k0) (hk1 : kPart kd k1) {MO : Mem} {vo : Unit}   : ∀ (fuel : Nat) (x2 : Int32) (x3 : Int32) (M : Mem), mX3_reckonCostsBehind_l2 k0 k1 fuel x2 x3 M = some (MO, vo) → At p l e (rmO 4 0 0) s m args below meth c 0 0 (MQ below (Qg G kd ad s.heap.size MO none) args s 0 0 (AS kd ad s.heap.size)) G kd ad 6 2 [(0, .ref (ad k0)), (1, .ref (ad k1)), (2, .int x2), (3, .int x3)] [] M := by
  intro fuel
  induction fuel with
  | zero => intro x2 x3 M hf; cases hf
  | succ n IH => exact tX3_reckonCostsBehind_b2 C hk0 hk1 IH
def mX3_reckonCostsBehind (k0 : Nat) (k1 : Nat) (x2 : Int32) (M : Mem) : Option (Mem × Unit) := mX3_reckonCostsBehind_l2 k0 k1 5000 x2 (0 : Int32) M
set_option maxHeartbeats 4000000 in
set_option maxRecDepth 100000 in
theorem tX3_reckonCostsBehind (l : Launch) {G : GT} {kd : Nat → Nat × Nat} {ad : Nat → Nat} {k0 : Nat} {k1 : Nat} (hk0 : kPlanner kd k0) (hk1 : kPart kd k1) {x2 : Int32} {M : Mem} {MO : Mem} {vo : Unit} (hf : mX3_reckonCostsBehind k0 k1 x2 M = some (MO, vo)) (n : Nat) : Met l yX3_reckonCostsBehind (Cond.code yX3_reckonCostsBehind cX3_reckonCostsBehind 6 none :: WA) (rmO 4 0 0) (Pg G kd ad n [.ref (ad k0), .ref (ad k1), .int x2] M) (Qg G kd ad n MO none) 0 0 (AS kd ad n) := by
  refine g_body (own := RX3) (by decide) rfl ?_ (Nat.le_of_ble_eq_true rfl)
  intro p e s m args below meth c C _ H locs ls hI hl
  obtain ⟨hx, hb, hml, hr, hown, hts, hlk, hK, hap, hsx⟩ := id C
  have hl : lv_has ls 6 [(0, .ref (ad k0)), (1, .ref (ad k1)), (2, .int x2)] := hl
  unfold mX3_reckonCostsBehind at hf
  refine lv_iconst (v := 0) hx hb (dc tbX3_reckonCostsBehind_0_k 0 rfl) ic_0 ?_
  refine lv_istore_n (lv' := [(3, .int (0 : Int32)), (0, .ref (ad k0)), (1, .ref (ad k1)), (2, .int x2)]) hx hb (dc tbX3_reckonCostsBehind_0_k 1 rfl) rfl hl (by decide) rfl (fun ls hl => ?_)
  exact tX3_reckonCostsBehind_l2 C hk0 hk1 5000 x2 (0 : Int32) M hf _ _ _ hI (lv_sub hl [1, 2, 3, 0] rfl)
theorem cv_X3_reckonCostsBehind : cvF RX3 yX3_reckonCostsBehind cX3_reckonCostsBehind 6 none 2 := ⟨q_t3_115, q_s1_12, q_t1_6, q_t3_116, by decide +kernel⟩
def mX3_reckonCosts_b27 (k0 : Nat) (k1 : Nat) (ih4 : Int32 → Mem → Option (Mem × Unit)) (x2 : Int32) (M : Mem) : Option (Mem × Unit) := bnd (x2 + (-1 : Int32)) (fun x2_27 => ih4 x2_27 M)
set_option maxHeartbeats 4000000 in
set_option maxRecDepth 100000 in
theorem tX3_reckonCosts_b27 {p : Program} {l : Launch} {e : Env} {s : State} {m : MethodId} {args : Array Value} {below : List Frame} {meth : Method} {c : Code} {G : GT} {kd : Nat → Nat × Nat} {ad : Nat → Nat} (C : Cx p s m args meth c cX3_reckonCosts 3 none RX3 G kd ad) {k0 : Nat} {k1 : Nat} (hk0 : kPlanner kd k0) (hk1 : kPart kd k1) {MO : Mem} {vo : Unit} {ih4 : Int32 → Mem → Option (Mem × Unit)} (hih4 : ∀ (x2 : Int32) (M : Mem), ih4 x2 M = some (MO, vo) → At p l e (rmO 5 0 0) s m args below meth c 0 0 (MQ below (Qg G kd ad s.heap.size MO none) args s 0 0 (AS kd ad s.heap.size)) G kd ad 3 4 [(0, .ref (ad k0)), (1, .ref (ad k1)), (2, .int x2)] [] M) : ∀ (x2 : Int32) (M : Mem), mX3_reckonCosts_b27 k0 k1 ih4 x2 M = some (MO, vo) → At p l e (rmO 5 0 0) s m args below meth c 0 0 (MQ below (Qg G kd ad s.heap.size MO none) args s 0 0 (AS kd ad s.heap.size)) G kd ad 3 27 [(0, .ref (ad k0)), (1, .ref (ad k1)), (2, .int x2)] [] M := by
  intro x2 M hf H locs ls hI hl
  obtain ⟨hx, hb, hml, hr, hown, hts, hlk, hK, hap, hsx⟩ := id C
  unfold mX3_reckonCosts_b27 at hf
  obtain ⟨x2_27, e26, hf⟩ := bnd_s hf
  refine lv_iinc (v := x2_27) (lv' := [(2, .int x2_27), (0, .ref (ad k0)), (1, .ref (ad k1))]) hx hb (dc tbX3_reckonCosts_0_k 15 rfl) hl (k := 2) rfl (ii_e e26 ic_m1) (by decide) rfl (fun ls hl => ?_)
  refine lv_goto (tgt := 4) hx hb (dc tbX3_reckonCosts_0_k 16 rfl) rfl ?_
  exact hih4 x2_27 M hf _ _ _ hI (lv_sub hl [1, 2, 0] rfl)
def mX3_reckonCosts_b4 (k0 : Nat) (k1 : Nat) (ih4 : Int32 → Mem → Option (Mem × Unit)) (x2 : Int32) (M : Mem) : Option (Mem × Unit) := ite2 (x2 ≤ (rd M k1 13)) (cap (mX1_lastCode k1 M) (fun r3 => cap (mX1_lastGauge k1 M) (fun r6 => cap (mX3_costOnward k0 k1 (rd M k1 13) r3 r6 (1 : Int32) M) (fun r9 => bnd (wr M k0 0 r9) (fun M11 => cap (mX1_lastCode k1 M11) (fun r14 => cap (mX1_lastGauge k1 M11) (fun r17 => cap (mX3_costOnward k0 k1 (rd M11 k1 13) r14 r17 (0 : Int32) M11) (fun r20 => bnd (wr M11 k0 1 r20) (fun M22 => some (M22, ())))))))))) (chk (okb x2 256) (ite2 ((rd M (k0 + 18) (x2).toNatClampNeg) = 0) (mX3_reckonCosts_b27 k0 k1 ih4 x2 M) (cal (mX3_reckonCostsBehind k0 k1 x2 M) (fun M29 _ => mX3_reckonCosts_b27 k0 k1 ih4 x2 M29))))
set_option maxHeartbeats 4000000 in
set_option maxRecDepth 100000 in
theorem tX3_reckonCosts_b4 {p : Program} {l : Launch} {e : Env} {s : State} {m : MethodId} {args : Array Value} {below : List Frame} {meth : Method} {c : Code} {G : GT} {kd : Nat → Nat × Nat} {ad : Nat → Nat} (C : Cx p s m args meth c cX3_reckonCosts 3 none RX3 G kd ad) {k0 : Nat} {k1 : Nat} (hk0 : kPlanner kd k0) (hk1 : kPart kd k1) {MO : Mem} {vo : Unit} {ih4 : Int32 → Mem → Option (Mem × Unit)} (hih4 : ∀ (x2 : Int32) (M : Mem), ih4 x2 M = some (MO, vo) → At p l e (rmO 5 0 0) s m args below meth c 0 0 (MQ below (Qg G kd ad s.heap.size MO none) args s 0 0 (AS kd ad s.heap.size)) G kd ad 3 4 [(0, .ref (ad k0)), (1, .ref (ad k1)), (2, .int x2)] [] M) : ∀ (x2 : Int32) (M : Mem), mX3_reckonCosts_b4 k0 k1 ih4 x2 M = some (MO, vo) → At p l e (rmO 5 0 0) s m args below meth c 0 0 (MQ below (Qg G kd ad s.heap.size MO none) args s 0 0 (AS kd ad s.heap.size)) G kd ad 3 4 [(0, .ref (ad k0)), (1, .ref (ad k1)), (2, .int x2)] [] M := by
  intro x2 M hf H locs ls hI hl
  obtain ⟨hx, hb, hml, hr, hown, hts, hlk, hK, hap, hsx⟩ := id C
  unfold mX3_reckonCosts_b4 at hf
  refine lv_iload_n hx hb (dc tbX3_reckonCosts_0_k 2 rfl) rfl (lv_at hl 2 rfl) ?_
  refine lv_aload_n hx hb (dc tbX3_reckonCosts_0_k 3 rfl) rfl (lv_at hl 1 rfl) ?_
  refine gg1_13 hx hb hts hown hK hI hk1.1 q_t1_127 (dc tbX3_reckonCosts_0_k 4 rfl) ?_
  refine lv_icmp_le (tgt := 33) hx hb (dc tbX3_reckonCosts_0_k 5 rfl) rfl (fun c1 => ?_) (fun c1 => ?_)
  · have hf := ite_t c1 hf
    refine lv_aload_n hx hb (dc tbX3_reckonCosts_0_k 17 rfl) rfl (lv_at hl 0 rfl) ?_
    refine lv_aload_n hx hb (dc tbX3_reckonCosts_0_k 18 rfl) rfl (lv_at hl 0 rfl) ?_
    refine lv_aload_n hx hb (dc tbX3_reckonCosts_0_k 19 rfl) rfl (lv_at hl 1 rfl) ?_
    refine lv_aload_n hx hb (dc tbX3_reckonCosts_0_k 20 rfl) rfl (lv_at hl 1 rfl) ?_
    refine gg1_13 hx hb hts hown hK hI hk1.1 q_t1_127 (dc tbX3_reckonCosts_0_k 21 rfl) ?_
    refine lv_aload_n hx hb (dc tbX3_reckonCosts_0_k 22 rfl) rfl (lv_at hl 1 rfl) ?_
    obtain ⟨r3, q2, hf⟩ := cap_s hf
    refine g_callVi hx hb hml hown hts hK hap hsx hI (tX1_lastCode l hk1 q2 H.size) cv_X1_lastCode q_t3_129 rfl rfl ⟨Nat.le_of_ble_eq_true rfl, Nat.le_of_ble_eq_true rfl⟩ hk1.1 (by simp) rfl rfl rfl hl.1 rfl (Nat.le_of_ble_eq_true rfl) (dc tbX3_reckonCosts_0_k 23 rfl) ⟨Nat.le_of_ble_eq_true rfl, Nat.le_of_ble_eq_true rfl⟩ (fun H locs hI => ?_)
    refine lv_aload_n hx hb (dc tbX3_reckonCosts_0_k 24 rfl) rfl (lv_at hl 1 rfl) ?_
    obtain ⟨r6, q5, hf⟩ := cap_s hf
    refine g_callVi hx hb hml hown hts hK hap hsx hI (tX1_lastGauge l hk1 q5 H.size) cv_X1_lastGauge q_t3_130 rfl rfl ⟨Nat.le_of_ble_eq_true rfl, Nat.le_of_ble_eq_true rfl⟩ hk1.1 (by simp) rfl rfl rfl hl.1 rfl (Nat.le_of_ble_eq_true rfl) (dc tbX3_reckonCosts_0_k 25 rfl) ⟨Nat.le_of_ble_eq_true rfl, Nat.le_of_ble_eq_true rfl⟩ (fun H locs hI => ?_)
    refine lv_iconst (v := 1) hx hb (dc tbX3_reckonCosts_0_k 26 rfl) ic_1 ?_
    obtain ⟨r9, q8, hf⟩ := cap_s hf
    refine g_callVi hx hb hml hown hts hK hap hsx hI (tX3_costOnward l hk0 hk1 q8 H.size) cv_X3_costOnward q_t3_117 rfl rfl ⟨Nat.le_of_ble_eq_true rfl, Nat.le_of_ble_eq_true rfl⟩ hk0.1 (by simp) rfl rfl rfl hl.1 rfl (Nat.le_of_ble_eq_true rfl) (dc tbX3_reckonCosts_0_k 27 rfl) ⟨Nat.le_of_ble_eq_true rfl, Nat.le_of_ble_eq_true rfl⟩ (fun H locs hI => ?_)
    obtain ⟨M11, e12, hf⟩ := bnd_s hf
    refine gp3_0 hx hb hts hown hK hap hI hk0.1 q_t2_4 (dc tbX3_reckonCosts_0_k 28 rfl) e12 (fun H locs hI => ?_)
    refine lv_aload_n hx hb (dc tbX3_reckonCosts_0_k 29 rfl) rfl (lv_at hl 0 rfl) ?_
    refine lv_aload_n hx hb (dc tbX3_reckonCosts_0_k 30 rfl) rfl (lv_at hl 0 rfl) ?_
    refine lv_aload_n hx hb (dc tbX3_reckonCosts_0_k 31 rfl) rfl (lv_at hl 1 rfl) ?_
    refine lv_aload_n hx hb (dc tbX3_reckonCosts_0_k 32 rfl) rfl (lv_at hl 1 rfl) ?_
    refine gg1_13 hx hb hts hown hK hI hk1.1 q_t1_127 (dc tbX3_reckonCosts_0_k 33 rfl) ?_
    refine lv_aload_n hx hb (dc tbX3_reckonCosts_0_k 34 rfl) rfl (lv_at hl 1 rfl) ?_
    obtain ⟨r14, q13, hf⟩ := cap_s hf
    refine g_callVi hx hb hml hown hts hK hap hsx hI (tX1_lastCode l hk1 q13 H.size) cv_X1_lastCode q_t3_129 rfl rfl ⟨Nat.le_of_ble_eq_true rfl, Nat.le_of_ble_eq_true rfl⟩ hk1.1 (by simp) rfl rfl rfl hl.1 rfl (Nat.le_of_ble_eq_true rfl) (dc tbX3_reckonCosts_0_k 35 rfl) ⟨Nat.le_of_ble_eq_true rfl, Nat.le_of_ble_eq_true rfl⟩ (fun H locs hI => ?_)
    refine lv_aload_n hx hb (dc tbX3_reckonCosts_0_k 36 rfl) rfl (lv_at hl 1 rfl) ?_
    obtain ⟨r17, q16, hf⟩ := cap_s hf
    refine g_callVi hx hb hml hown hts hK hap hsx hI (tX1_lastGauge l hk1 q16 H.size) cv_X1_lastGauge q_t3_130 rfl rfl ⟨Nat.le_of_ble_eq_true rfl, Nat.le_of_ble_eq_true rfl⟩ hk1.1 (by simp) rfl rfl rfl hl.1 rfl (Nat.le_of_ble_eq_true rfl) (dc tbX3_reckonCosts_0_k 37 rfl) ⟨Nat.le_of_ble_eq_true rfl, Nat.le_of_ble_eq_true rfl⟩ (fun H locs hI => ?_)
    refine lv_iconst (v := 0) hx hb (dc tbX3_reckonCosts_0_k 38 rfl) ic_0 ?_
    obtain ⟨r20, q19, hf⟩ := cap_s hf
    refine g_callVi hx hb hml hown hts hK hap hsx hI (tX3_costOnward l hk0 hk1 q19 H.size) cv_X3_costOnward q_t3_117 rfl rfl ⟨Nat.le_of_ble_eq_true rfl, Nat.le_of_ble_eq_true rfl⟩ hk0.1 (by simp) rfl rfl rfl hl.1 rfl (Nat.le_of_ble_eq_true rfl) (dc tbX3_reckonCosts_0_k 39 rfl) ⟨Nat.le_of_ble_eq_true rfl, Nat.le_of_ble_eq_true rfl⟩ (fun H locs hI => ?_)
    obtain ⟨M22, e23, hf⟩ := bnd_s hf
    refine gp3_1 hx hb hts hown hK hap hI hk0.1 q_t2_6 (dc tbX3_reckonCosts_1_k 0 rfl) e23 (fun H locs hI => ?_)
    cases hf
    exact g_vret hx hb hr hlk hI (dc tbX3_reckonCosts_1_k 1 rfl)
  · have hf := ite_f c1 hf
    refine lv_aload_n hx hb (dc tbX3_reckonCosts_0_k 6 rfl) rfl (lv_at hl 0 rfl) ?_
    refine gg3_8 hx hb hts hown hK hI hk0.1 q_t2_16 (dc tbX3_reckonCosts_0_k 7 rfl) ?_
    refine lv_iload_n hx hb (dc tbX3_reckonCosts_0_k 8 rfl) rfl (lv_at hl 2 rfl) ?_
    obtain ⟨h24, hf⟩ := chk_s hf
    refine g_zald hx hb hK hI hk0.2.2.2.2.2.1 (okb_in h24) (dc tbX3_reckonCosts_0_k 9 rfl) ?_
    refine lv_if_eq (tgt := 27) hx hb (dc tbX3_reckonCosts_0_k 10 rfl) rfl (fun c25 => ?_) (fun c25 => ?_)
    · have hf := ite_t c25 hf
      exact tX3_reckonCosts_b27 C hk0 hk1 hih4 x2 M hf _ _ _ hI (lv_sub hl [0, 1, 2] rfl)
    · have hf := ite_f c25 hf
      refine lv_aload_n hx hb (dc tbX3_reckonCosts_0_k 11 rfl) rfl (lv_at hl 0 rfl) ?_
      refine lv_aload_n hx hb (dc tbX3_reckonCosts_0_k 12 rfl) rfl (lv_at hl 1 rfl) ?_
      refine lv_iload_n hx hb (dc tbX3_reckonCosts_0_k 13 rfl) rfl (lv_at hl 2 rfl) ?_
      obtain ⟨M29, r28, q27, hf⟩ := cal_s hf
      refine g_callVv hx hb hml hown hts hK hap hsx hI (tX3_reckonCostsBehind l hk0 hk1 q27 H.size) cv_X3_reckonCostsBehind q_t3_113 rfl rfl ⟨Nat.le_of_ble_eq_true rfl, Nat.le_of_ble_eq_true rfl⟩ hk0.1 (by simp) rfl rfl rfl hl.1 rfl (Nat.le_of_ble_eq_true rfl) (dc tbX3_reckonCosts_0_k 14 rfl) ⟨Nat.le_of_ble_eq_true rfl, Nat.le_of_ble_eq_true rfl⟩ (fun H locs hI => ?_)
      exact tX3_reckonCosts_b27 C hk0 hk1 hih4 x2 M29 hf _ _ _ hI (lv_sub hl [0, 1, 2] rfl)
def mX3_reckonCosts_l4 (k0 : Nat) (k1 : Nat) : Nat → Int32 → Mem → Option (Mem × Unit)
  | 0 => fun _ _ => none
  | n + 1 => mX3_reckonCosts_b4 k0 k1 (mX3_reckonCosts_l4 k0 k1 n)
theorem tX3_reckonCosts_l4 {p : Program} {l : Launch} {e : Env} {s : State} {m : MethodId} {args : Array Value} {below : List Frame} {meth : Method} {c : Code} {G : GT} {kd : Nat → Nat × Nat} {ad : Nat → Nat} (C : Cx p s m args meth c cX3_reckonCosts 3 none RX3 G kd ad) {k0 : Nat} {k1 : Nat} (hk0 : kPlanner kd k0) (hk1 : kPart kd k1) {MO : Mem} {vo : Unit}   : ∀ (fuel : Nat) (x2 : Int32) (M : Mem), mX3_reckonCosts_l4 k0 k1 fuel x2 M = some (MO, vo) → At p l e (rmO 5 0 0) s m args below meth c 0 0 (MQ below (Qg G kd ad s.heap.size MO none) args s 0 0 (AS kd ad s.heap.size)) G kd ad 3 4 [(0, .ref (ad k0)), (1, .ref (ad k1)), (2, .int x2)] [] M := by
  intro fuel
  induction fuel with
  | zero => intro x2 M hf; cases hf
  | succ n IH => exact tX3_reckonCosts_b4 C hk0 hk1 IH
def mX3_reckonCosts (k0 : Nat) (k1 : Nat) (M : Mem) : Option (Mem × Unit) := mX3_reckonCosts_l4 k0 k1 5000 (255 : Int32) M
set_option maxHeartbeats 4000000 in
set_option maxRecDepth 100000 in
theorem tX3_reckonCosts (l : Launch) {G : GT} {kd : Nat → Nat × Nat} {ad : Nat → Nat} {k0 : Nat} {k1 : Nat} (hk0 : kPlanner kd k0) (hk1 : kPart kd k1) {M : Mem} {MO : Mem} {vo : Unit} (hf : mX3_reckonCosts k0 k1 M = some (MO, vo)) (n : Nat) : Met l yX3_reckonCosts (Cond.code yX3_reckonCosts cX3_reckonCosts 3 none :: WA) (rmO 5 0 0) (Pg G kd ad n [.ref (ad k0), .ref (ad k1)] M) (Qg G kd ad n MO none) 0 0 (AS kd ad n) := by
  refine g_body (own := RX3) (by decide) rfl ?_ (Nat.le_of_ble_eq_true rfl)
  intro p e s m args below meth c C _ H locs ls hI hl
  obtain ⟨hx, hb, hml, hr, hown, hts, hlk, hK, hap, hsx⟩ := id C
  have hl : lv_has ls 3 [(0, .ref (ad k0)), (1, .ref (ad k1))] := hl
  unfold mX3_reckonCosts at hf
  refine lv_sipush (v := 255) hx hb (dc tbX3_reckonCosts_0_k 0 rfl) sp_255 ?_
  refine lv_istore_n (lv' := [(2, .int (255 : Int32)), (0, .ref (ad k0)), (1, .ref (ad k1))]) hx hb (dc tbX3_reckonCosts_0_k 1 rfl) rfl hl (by decide) rfl (fun ls hl => ?_)
  exact tX3_reckonCosts_l4 C hk0 hk1 5000 (255 : Int32) M hf _ _ _ hI (lv_sub hl [1, 2, 0] rfl)
theorem cv_X3_reckonCosts : cvF RX3 yX3_reckonCosts cX3_reckonCosts 3 none 1 := ⟨q_t3_111, q_s1_11, q_t1_6, q_t3_112, by decide +kernel⟩
def mX3_smallestStep_b3 (k0 : Nat) (k1 : Nat) (M : Mem) (ih3 : Int32 → Int32 → Int32 → Int32 → Int32 → Option Int32) (x2 : Int32) (x3 : Int32) (x4 : Int32) (x5 : Int32) (x6 : Int32) : Option Int32 := ite2 ((16 : Int32) ≤ x6) (some (-1 : Int32)) (cap (mX3_costThrough k0 k1 x2 x3 x4 x6 (1 : Int32) M) (fun r3 => ite2 (r3 = x5) (some x6) (bnd (x6 + (1 : Int32)) (fun x6_30 => ih3 x2 x3 x4 x5 x6_30))))
set_option maxHeartbeats 4000000 in
set_option maxRecDepth 100000 in
theorem tX3_smallestStep_b3 {p : Program} {l : Launch} {e : Env} {s : State} {m : MethodId} {args : Array Value} {below : List Frame} {meth : Method} {c : Code} {G : GT} {kd : Nat → Nat × Nat} {ad : Nat → Nat} (C : Cx p s m args meth c cX3_smallestStep 7 (some .int) RX3 G kd ad) {k0 : Nat} {k1 : Nat} (hk0 : kPlanner kd k0) (hk1 : kPart kd k1) {M : Mem} {vo : Int32} {ih3 : Int32 → Int32 → Int32 → Int32 → Int32 → Option Int32} (hih3 : ∀ (x2 : Int32) (x3 : Int32) (x4 : Int32) (x5 : Int32) (x6 : Int32), ih3 x2 x3 x4 x5 x6 = some vo → At p l e (rmO 3 0 0) s m args below meth c 0 0 (MQ below (Qg G kd ad s.heap.size M (some (.int vo))) args s 0 0 (AS kd ad s.heap.size)) G kd ad 7 3 [(0, .ref (ad k0)), (1, .ref (ad k1)), (2, .int x2), (3, .int x3), (4, .int x4), (5, .int x5), (6, .int x6)] [] M) : ∀ (x2 : Int32) (x3 : Int32) (x4 : Int32) (x5 : Int32) (x6 : Int32), mX3_smallestStep_b3 k0 k1 M ih3 x2 x3 x4 x5 x6 = some vo → At p l e (rmO 3 0 0) s m args below meth c 0 0 (MQ below (Qg G kd ad s.heap.size M (some (.int vo))) args s 0 0 (AS kd ad s.heap.size)) G kd ad 7 3 [(0, .ref (ad k0)), (1, .ref (ad k1)), (2, .int x2), (3, .int x3), (4, .int x4), (5, .int x5), (6, .int x6)] [] M := by
  intro x2 x3 x4 x5 x6 hf H locs ls hI hl
  obtain ⟨hx, hb, hml, hr, hown, hts, hlk, hK, hap, hsx⟩ := id C
  unfold mX3_smallestStep_b3 at hf
  refine lv_iload hx hb (dc tbX3_smallestStep_k 2 rfl) (lv_at hl 6 rfl) ?_
  refine lv_bipush (v := 16) hx hb (dc tbX3_smallestStep_k 3 rfl) bp_16 ?_
  refine lv_icmp_ge (tgt := 36) hx hb (dc tbX3_smallestStep_k 4 rfl) rfl (fun c1 => ?_) (fun c1 => ?_)
  · have hf := ite_t c1 hf
    refine lv_iconst (v := -1) hx hb (dc tbX3_smallestStep_k 19 rfl) ic_m1 ?_
    cases hf
    exact g_iret hx hb hr hlk hI (dc tbX3_smallestStep_k 20 rfl)
  · have hf := ite_f c1 hf
    refine lv_aload_n hx hb (dc tbX3_smallestStep_k 5 rfl) rfl (lv_at hl 0 rfl) ?_
    refine lv_aload_n hx hb (dc tbX3_smallestStep_k 6 rfl) rfl (lv_at hl 1 rfl) ?_
    refine lv_iload_n hx hb (dc tbX3_smallestStep_k 7 rfl) rfl (lv_at hl 2 rfl) ?_
    refine lv_iload_n hx hb (dc tbX3_smallestStep_k 8 rfl) rfl (lv_at hl 3 rfl) ?_
    refine lv_iload hx hb (dc tbX3_smallestStep_k 9 rfl) (lv_at hl 4 rfl) ?_
    refine lv_iload hx hb (dc tbX3_smallestStep_k 10 rfl) (lv_at hl 6 rfl) ?_
    refine lv_iconst (v := 1) hx hb (dc tbX3_smallestStep_k 11 rfl) ic_1 ?_
    obtain ⟨r3, q2, hf⟩ := cap_s hf
    refine g_callVi hx hb hml hown hts hK hap hsx hI (tX3_costThrough l hk0 hk1 q2 H.size) cv_X3_costThrough q_t3_121 rfl rfl ⟨Nat.le_of_ble_eq_true rfl, Nat.le_of_ble_eq_true rfl⟩ hk0.1 (by simp) rfl rfl rfl hl.1 rfl (Nat.le_of_ble_eq_true rfl) (dc tbX3_smallestStep_k 12 rfl) ⟨Nat.le_of_ble_eq_true rfl, Nat.le_of_ble_eq_true rfl⟩ (fun H locs hI => ?_)
    refine lv_iload hx hb (dc tbX3_smallestStep_k 13 rfl) (lv_at hl 5 rfl) ?_
    refine lv_icmp_ne (tgt := 30) hx hb (dc tbX3_smallestStep_k 14 rfl) rfl (fun c5 => ?_) (fun c5 => ?_)
    · have hf := ite_f c5 hf
      obtain ⟨x6_30, e6, hf⟩ := bnd_s hf
      refine lv_iinc (v := x6_30) (lv' := [(6, .int x6_30), (0, .ref (ad k0)), (1, .ref (ad k1)), (2, .int x2), (3, .int x3), (4, .int x4), (5, .int x5)]) hx hb (dc tbX3_smallestStep_k 17 rfl) hl (k := 6) rfl (ii_e e6 ic_1) (by decide) rfl (fun ls hl => ?_)
      refine lv_goto (tgt := 3) hx hb (dc tbX3_smallestStep_k 18 rfl) rfl ?_
      exact hih3 x2 x3 x4 x5 x6_30 hf _ _ _ hI (lv_sub hl [1, 2, 3, 4, 5, 6, 0] rfl)
    · have hf := ite_t c5 hf
      refine lv_iload hx hb (dc tbX3_smallestStep_k 15 rfl) (lv_at hl 6 rfl) ?_
      cases hf
      exact g_iret hx hb hr hlk hI (dc tbX3_smallestStep_k 16 rfl)
def mX3_smallestStep_l3 (k0 : Nat) (k1 : Nat) (M : Mem) : Nat → Int32 → Int32 → Int32 → Int32 → Int32 → Option Int32
  | 0 => fun _ _ _ _ _ => none
  | n + 1 => mX3_smallestStep_b3 k0 k1 M (mX3_smallestStep_l3 k0 k1 M n)
theorem tX3_smallestStep_l3 {p : Program} {l : Launch} {e : Env} {s : State} {m : MethodId} {args : Array Value} {below : List Frame} {meth : Method} {c : Code} {G : GT} {kd : Nat → Nat × Nat} {ad : Nat → Nat} (C : Cx p s m args meth c cX3_smallestStep 7 (some .int) RX3 G kd ad) {k0 : Nat} {k1 : Nat} (hk0 : kPlanner kd k0) (hk1 : kPart kd k1) {M : Mem} {vo : Int32}   : ∀ (fuel : Nat) (x2 : Int32) (x3 : Int32) (x4 : Int32) (x5 : Int32) (x6 : Int32), mX3_smallestStep_l3 k0 k1 M fuel x2 x3 x4 x5 x6 = some vo → At p l e (rmO 3 0 0) s m args below meth c 0 0 (MQ below (Qg G kd ad s.heap.size M (some (.int vo))) args s 0 0 (AS kd ad s.heap.size)) G kd ad 7 3 [(0, .ref (ad k0)), (1, .ref (ad k1)), (2, .int x2), (3, .int x3), (4, .int x4), (5, .int x5), (6, .int x6)] [] M := by
  intro fuel
  induction fuel with
  | zero => intro x2 x3 x4 x5 x6 hf; cases hf
  | succ n IH => exact tX3_smallestStep_b3 C hk0 hk1 IH
def mX3_smallestStep (k0 : Nat) (k1 : Nat) (x2 : Int32) (x3 : Int32) (x4 : Int32) (x5 : Int32) (M : Mem) : Option Int32 := mX3_smallestStep_l3 k0 k1 M 5000 x2 x3 x4 x5 (0 : Int32)
set_option maxHeartbeats 4000000 in
set_option maxRecDepth 100000 in
theorem tX3_smallestStep (l : Launch) {G : GT} {kd : Nat → Nat × Nat} {ad : Nat → Nat} {k0 : Nat} {k1 : Nat} (hk0 : kPlanner kd k0) (hk1 : kPart kd k1) {x2 : Int32} {x3 : Int32} {x4 : Int32} {x5 : Int32} {M : Mem} {vo : Int32} (hf : mX3_smallestStep k0 k1 x2 x3 x4 x5 M = some vo) (n : Nat) : Met l yX3_smallestStep (Cond.code yX3_smallestStep cX3_smallestStep 7 (some .int) :: WA) (rmO 3 0 0) (Pg G kd ad n [.ref (ad k0), .ref (ad k1), .int x2, .int x3, .int x4, .int x5] M) (Qg G kd ad n M (some (.int vo))) 0 0 (AS kd ad n) := by
  refine g_body (own := RX3) (by decide) rfl ?_ (Nat.le_of_ble_eq_true rfl)
  intro p e s m args below meth c C _ H locs ls hI hl
  obtain ⟨hx, hb, hml, hr, hown, hts, hlk, hK, hap, hsx⟩ := id C
  have hl : lv_has ls 7 [(0, .ref (ad k0)), (1, .ref (ad k1)), (2, .int x2), (3, .int x3), (4, .int x4), (5, .int x5)] := hl
  unfold mX3_smallestStep at hf
  refine lv_iconst (v := 0) hx hb (dc tbX3_smallestStep_k 0 rfl) ic_0 ?_
  refine lv_istore (lv' := [(6, .int (0 : Int32)), (0, .ref (ad k0)), (1, .ref (ad k1)), (2, .int x2), (3, .int x3), (4, .int x4), (5, .int x5)]) hx hb (dc tbX3_smallestStep_k 1 rfl) hl (by decide) rfl (fun ls hl => ?_)
  exact tX3_smallestStep_l3 C hk0 hk1 5000 x2 x3 x4 x5 (0 : Int32) hf _ _ _ hI (lv_sub hl [1, 2, 3, 4, 5, 6, 0] rfl)
theorem cv_X3_smallestStep : cvF RX3 yX3_smallestStep cX3_smallestStep 7 (some .int) 5 := ⟨q_t3_137, q_s2_0, q_t1_6, q_t3_138, by decide +kernel⟩
def mX3_choosePlan_b127 (k0 : Nat) (k1 : Nat) (ih40 : Int32 → Int32 → Int32 → Int32 → Int32 → Mem → Option (Mem × Unit)) (x2 : Int32) (x3 : Int32) (x4 : Int32) (x5 : Int32) (x6 : Int32) (M : Mem) : Option (Mem × Unit) := bnd (x6 + (1 : Int32)) (fun x6_127 => ih40 x2 x3 x4 x5 x6_127 M)
set_option maxHeartbeats 4000000 in
set_option maxRecDepth 100000 in
theorem tX3_choosePlan_b127 {p : Program} {l : Launch} {e : Env} {s : State} {m : MethodId} {args : Array Value} {below : List Frame} {meth : Method} {c : Code} {G : GT} {kd : Nat → Nat × Nat} {ad : Nat → Nat} (C : Cx p s m args meth c cX3_choosePlan 8 none RX3 G kd ad) {k0 : Nat} {k1 : Nat} (hk0 : kPlanner kd k0) (hk1 : kPart kd k1) {MO : Mem} {vo : Unit} {ih40 : Int32 → Int32 → Int32 → Int32 → Int32 → Mem → Option (Mem × Unit)} (hih40 : ∀ (x2 : Int32) (x3 : Int32) (x4 : Int32) (x5 : Int32) (x6 : Int32) (M : Mem), ih40 x2 x3 x4 x5 x6 M = some (MO, vo) → At p l e (rmO 4 0 0) s m args below meth c 0 0 (MQ below (Qg G kd ad s.heap.size MO none) args s 0 0 (AS kd ad s.heap.size)) G kd ad 8 40 [(0, .ref (ad k0)), (1, .ref (ad k1)), (2, .int x2), (3, .int x3), (4, .int x4), (5, .int x5), (6, .int x6)] [] M) : ∀ (x2 : Int32) (x3 : Int32) (x4 : Int32) (x5 : Int32) (x6 : Int32) (M : Mem), mX3_choosePlan_b127 k0 k1 ih40 x2 x3 x4 x5 x6 M = some (MO, vo) → At p l e (rmO 4 0 0) s m args below meth c 0 0 (MQ below (Qg G kd ad s.heap.size MO none) args s 0 0 (AS kd ad s.heap.size)) G kd ad 8 127 [(0, .ref (ad k0)), (1, .ref (ad k1)), (2, .int x2), (3, .int x3), (4, .int x4), (5, .int x5), (6, .int x6)] [] M := by
  intro x2 x3 x4 x5 x6 M hf H locs ls hI hl
  obtain ⟨hx, hb, hml, hr, hown, hts, hlk, hK, hap, hsx⟩ := id C
  unfold mX3_choosePlan_b127 at hf
  obtain ⟨x6_127, e18, hf⟩ := bnd_s hf
  refine lv_iinc (v := x6_127) (lv' := [(6, .int x6_127), (0, .ref (ad k0)), (1, .ref (ad k1)), (2, .int x2), (3, .int x3), (4, .int x4), (5, .int x5)]) hx hb (dc tbX3_choosePlan_1_k 33 rfl) hl (k := 6) rfl (ii_e e18 ic_1) (by decide) rfl (fun ls hl => ?_)
  refine lv_goto (tgt := 40) hx hb (dc tbX3_choosePlan_1_k 34 rfl) rfl ?_
  exact hih40 x2 x3 x4 x5 x6_127 M hf _ _ _ hI (lv_sub hl [1, 2, 3, 4, 5, 6, 0] rfl)
def mX3_choosePlan_b40 (k0 : Nat) (k1 : Nat) (ih40 : Int32 → Int32 → Int32 → Int32 → Int32 → Mem → Option (Mem × Unit)) (x2 : Int32) (x3 : Int32) (x4 : Int32) (x5 : Int32) (x6 : Int32) (M : Mem) : Option (Mem × Unit) := ite2 ((8 : Int32) ≤ x6) (some (M, ())) (ite2 (x5 = (-1 : Int32)) (some (M, ())) (cap (mX3_smallestStep k0 k1 x2 x3 x4 x5 M) (fun r15 => ite2 (r15 = (-1 : Int32)) (mX3_choosePlan_b127 k0 k1 ih40 x2 x3 x4 x5 x6 M) (chk (okb x6 8) (bnd (wr M (k0 + 1) (x6).toNatClampNeg r15) (fun M21 => bnd (wr M21 k0 3 (x6 + (1 : Int32))) (fun M22 => chk (okb ((x2 * (16 : Int32)) + r15) 4096) (bnd ((rd M22 (k0 + 20) (((x2 * (16 : Int32)) + r15)).toNatClampNeg)) (fun x4_104 => cap (mX3_setBehind x2 r15 M22) (fun r27 => chk (okb ((r27 * (16 : Int32)) + r15) 4096) (bnd ((rd M22 (k0 + 21) (((r27 * (16 : Int32)) + r15)).toNatClampNeg)) (fun x5_125 => mX3_choosePlan_b127 k0 k1 ih40 r27 r15 x4_104 x5_125 x6 M22))))))))))))
set_option maxHeartbeats 4000000 in
set_option maxRecDepth 100000 in
theorem tX3_choosePlan_b40 {p : Program} {l : Launch} {e : Env} {s : State} {m : MethodId} {args : Array Value} {below : List Frame} {meth : Method} {c : Code} {G : GT} {kd : Nat → Nat × Nat} {ad : Nat → Nat} (C : Cx p s m args meth c cX3_choosePlan 8 none RX3 G kd ad) {k0 : Nat} {k1 : Nat} (hk0 : kPlanner kd k0) (hk1 : kPart kd k1) {MO : Mem} {vo : Unit} {ih40 : Int32 → Int32 → Int32 → Int32 → Int32 → Mem → Option (Mem × Unit)} (hih40 : ∀ (x2 : Int32) (x3 : Int32) (x4 : Int32) (x5 : Int32) (x6 : Int32) (M : Mem), ih40 x2 x3 x4 x5 x6 M = some (MO, vo) → At p l e (rmO 4 0 0) s m args below meth c 0 0 (MQ below (Qg G kd ad s.heap.size MO none) args s 0 0 (AS kd ad s.heap.size)) G kd ad 8 40 [(0, .ref (ad k0)), (1, .ref (ad k1)), (2, .int x2), (3, .int x3), (4, .int x4), (5, .int x5), (6, .int x6)] [] M) : ∀ (x2 : Int32) (x3 : Int32) (x4 : Int32) (x5 : Int32) (x6 : Int32) (M : Mem), mX3_choosePlan_b40 k0 k1 ih40 x2 x3 x4 x5 x6 M = some (MO, vo) → At p l e (rmO 4 0 0) s m args below meth c 0 0 (MQ below (Qg G kd ad s.heap.size MO none) args s 0 0 (AS kd ad s.heap.size)) G kd ad 8 40 [(0, .ref (ad k0)), (1, .ref (ad k1)), (2, .int x2), (3, .int x3), (4, .int x4), (5, .int x5), (6, .int x6)] [] M := by
  intro x2 x3 x4 x5 x6 M hf H locs ls hI hl
  obtain ⟨hx, hb, hml, hr, hown, hts, hlk, hK, hap, hsx⟩ := id C
  unfold mX3_choosePlan_b40 at hf
  refine lv_iload hx hb (dc tbX3_choosePlan_0_k 22 rfl) (lv_at hl 6 rfl) ?_
  refine lv_bipush (v := 8) hx hb (dc tbX3_choosePlan_0_k 23 rfl) bp_8 ?_
  refine lv_icmp_ge (tgt := 133) hx hb (dc tbX3_choosePlan_0_k 24 rfl) rfl (fun c12 => ?_) (fun c12 => ?_)
  · have hf := ite_t c12 hf
    cases hf
    exact g_vret hx hb hr hlk hI (dc tbX3_choosePlan_1_k 35 rfl)
  · have hf := ite_f c12 hf
    refine lv_iload hx hb (dc tbX3_choosePlan_0_k 25 rfl) (lv_at hl 5 rfl) ?_
    refine lv_iconst (v := -1) hx hb (dc tbX3_choosePlan_0_k 26 rfl) ic_m1 ?_
    refine lv_icmp_eq (tgt := 133) hx hb (dc tbX3_choosePlan_0_k 27 rfl) rfl (fun c13 => ?_) (fun c13 => ?_)
    · have hf := ite_t c13 hf
      cases hf
      exact g_vret hx hb hr hlk hI (dc tbX3_choosePlan_1_k 35 rfl)
    · have hf := ite_f c13 hf
      refine lv_aload_n hx hb (dc tbX3_choosePlan_0_k 28 rfl) rfl (lv_at hl 0 rfl) ?_
      refine lv_aload_n hx hb (dc tbX3_choosePlan_0_k 29 rfl) rfl (lv_at hl 1 rfl) ?_
      refine lv_iload_n hx hb (dc tbX3_choosePlan_0_k 30 rfl) rfl (lv_at hl 2 rfl) ?_
      refine lv_iload_n hx hb (dc tbX3_choosePlan_0_k 31 rfl) rfl (lv_at hl 3 rfl) ?_
      refine lv_iload hx hb (dc tbX3_choosePlan_0_k 32 rfl) (lv_at hl 4 rfl) ?_
      refine lv_iload hx hb (dc tbX3_choosePlan_0_k 33 rfl) (lv_at hl 5 rfl) ?_
      obtain ⟨r15, q14, hf⟩ := cap_s hf
      refine g_callVi hx hb hml hown hts hK hap hsx hI (tX3_smallestStep l hk0 hk1 q14 H.size) cv_X3_smallestStep q_t3_135 rfl rfl ⟨Nat.le_of_ble_eq_true rfl, Nat.le_of_ble_eq_true rfl⟩ hk0.1 (by simp) rfl rfl rfl hl.1 rfl (Nat.le_of_ble_eq_true rfl) (dc tbX3_choosePlan_0_k 34 rfl) ⟨Nat.le_of_ble_eq_true rfl, Nat.le_of_ble_eq_true rfl⟩ (fun H locs hI => ?_)
      refine lv_istore (lv' := [(7, .int r15), (0, .ref (ad k0)), (1, .ref (ad k1)), (2, .int x2), (3, .int x3), (4, .int x4), (5, .int x5), (6, .int x6)]) hx hb (dc tbX3_choosePlan_0_k 35 rfl) hl (by decide) rfl (fun ls hl => ?_)
      refine lv_iload hx hb (dc tbX3_choosePlan_0_k 36 rfl) (lv_at hl 0 rfl) ?_
      refine lv_iconst (v := -1) hx hb (dc tbX3_choosePlan_0_k 37 rfl) ic_m1 ?_
      refine lv_icmp_eq (tgt := 127) hx hb (dc tbX3_choosePlan_0_k 38 rfl) rfl (fun c17 => ?_) (fun c17 => ?_)
      · have hf := ite_t c17 hf
        exact tX3_choosePlan_b127 C hk0 hk1 hih40 x2 x3 x4 x5 x6 M hf _ _ _ hI (lv_sub hl [1, 2, 3, 4, 5, 6, 7] rfl)
      · have hf := ite_f c17 hf
        refine lv_aload_n hx hb (dc tbX3_choosePlan_0_k 39 rfl) rfl (lv_at hl 1 rfl) ?_
        refine gg3_2 hx hb hts hown hK hI hk0.1 q_t2_8 (dc tbX3_choosePlan_1_k 0 rfl) ?_
        refine lv_iload hx hb (dc tbX3_choosePlan_1_k 1 rfl) (lv_at hl 7 rfl) ?_
        refine lv_iload hx hb (dc tbX3_choosePlan_1_k 2 rfl) (lv_at hl 0 rfl) ?_
        obtain ⟨h19, hf⟩ := chk_s hf
        obtain ⟨M21, e20, hf⟩ := bnd_s hf
        refine g_iast hx hb hK hap hI hk0.2.1 (okb_in h19) (dc tbX3_choosePlan_1_k 3 rfl) e20 (fun H locs hI => ?_)
        refine lv_aload_n hx hb (dc tbX3_choosePlan_1_k 4 rfl) rfl (lv_at hl 1 rfl) ?_
        refine lv_iload hx hb (dc tbX3_choosePlan_1_k 5 rfl) (lv_at hl 7 rfl) ?_
        refine lv_iconst (v := 1) hx hb (dc tbX3_choosePlan_1_k 6 rfl) ic_1 ?_
        refine lv_iadd hx hb (dc tbX3_choosePlan_1_k 7 rfl) ?_
        obtain ⟨M22, e23, hf⟩ := bnd_s hf
        refine gp3_3 hx hb hts hown hK hap hI hk0.1 q_t2_10 (dc tbX3_choosePlan_1_k 8 rfl) e23 (fun H locs hI => ?_)
        refine lv_iload hx hb (dc tbX3_choosePlan_1_k 9 rfl) (lv_at hl 0 rfl) ?_
        refine lv_istore_n (lv' := [(3, .int r15), (7, .int r15), (0, .ref (ad k0)), (1, .ref (ad k1)), (2, .int x2), (4, .int x4), (5, .int x5), (6, .int x6)]) hx hb (dc tbX3_choosePlan_1_k 10 rfl) rfl hl (by decide) rfl (fun ls hl => ?_)
        refine lv_aload_n hx hb (dc tbX3_choosePlan_1_k 11 rfl) rfl (lv_at hl 2 rfl) ?_
        refine gg3_10 hx hb hts hown hK hI hk0.1 q_t2_18 (dc tbX3_choosePlan_1_k 12 rfl) ?_
        refine lv_iload_n hx hb (dc tbX3_choosePlan_1_k 13 rfl) rfl (lv_at hl 4 rfl) ?_
        refine lv_bipush (v := 16) hx hb (dc tbX3_choosePlan_1_k 14 rfl) bp_16 ?_
        refine lv_imul hx hb (dc tbX3_choosePlan_1_k 15 rfl) ?_
        refine lv_iload hx hb (dc tbX3_choosePlan_1_k 16 rfl) (lv_at hl 1 rfl) ?_
        refine lv_iadd hx hb (dc tbX3_choosePlan_1_k 17 rfl) ?_
        obtain ⟨h24, hf⟩ := chk_s hf
        refine g_iald hx hb hK hI hk0.2.2.2.2.2.2.2.1 (okb_in h24) (dc tbX3_choosePlan_1_k 18 rfl) ?_
        obtain ⟨x4_104, e25, hf⟩ := bnd_s hf
        refine lv_ei e25 ?_
        refine lv_istore (lv' := [(4, .int x4_104), (3, .int r15), (7, .int r15), (0, .ref (ad k0)), (1, .ref (ad k1)), (2, .int x2), (5, .int x5), (6, .int x6)]) hx hb (dc tbX3_choosePlan_1_k 19 rfl) hl (by decide) rfl (fun ls hl => ?_)
        refine lv_iload_n hx hb (dc tbX3_choosePlan_1_k 20 rfl) rfl (lv_at hl 5 rfl) ?_
        refine lv_iload hx hb (dc tbX3_choosePlan_1_k 21 rfl) (lv_at hl 2 rfl) ?_
        obtain ⟨r27, q26, hf⟩ := cap_s hf
        refine g_callSi hx hb hml hown hts hK hap hsx hI (tX3_setBehind l  q26 H.size) cs_X3_setBehind q_t3_101 rfl rfl ⟨Nat.le_of_ble_eq_true rfl, Nat.le_of_ble_eq_true rfl⟩ rfl hl.1 rfl (Nat.le_of_ble_eq_true rfl) (dc tbX3_choosePlan_1_k 22 rfl) ⟨Nat.le_of_ble_eq_true rfl, Nat.le_of_ble_eq_true rfl⟩ (fun H locs hI => ?_)
        refine lv_istore_n (lv' := [(2, .int r27), (4, .int x4_104), (3, .int r15), (7, .int r15), (0, .ref (ad k0)), (1, .ref (ad k1)), (5, .int x5), (6, .int x6)]) hx hb (dc tbX3_choosePlan_1_k 23 rfl) rfl hl (by decide) rfl (fun ls hl => ?_)
        refine lv_aload_n hx hb (dc tbX3_choosePlan_1_k 24 rfl) rfl (lv_at hl 4 rfl) ?_
        refine gg3_11 hx hb hts hown hK hI hk0.1 q_t2_19 (dc tbX3_choosePlan_1_k 25 rfl) ?_
        refine lv_iload_n hx hb (dc tbX3_choosePlan_1_k 26 rfl) rfl (lv_at hl 0 rfl) ?_
        refine lv_bipush (v := 16) hx hb (dc tbX3_choosePlan_1_k 27 rfl) bp_16 ?_
        refine lv_imul hx hb (dc tbX3_choosePlan_1_k 28 rfl) ?_
        refine lv_iload hx hb (dc tbX3_choosePlan_1_k 29 rfl) (lv_at hl 3 rfl) ?_
        refine lv_iadd hx hb (dc tbX3_choosePlan_1_k 30 rfl) ?_
        obtain ⟨h29, hf⟩ := chk_s hf
        refine g_iald hx hb hK hI hk0.2.2.2.2.2.2.2.2.1 (okb_in h29) (dc tbX3_choosePlan_1_k 31 rfl) ?_
        obtain ⟨x5_125, e30, hf⟩ := bnd_s hf
        refine lv_ei e30 ?_
        refine lv_istore (lv' := [(5, .int x5_125), (2, .int r27), (4, .int x4_104), (3, .int r15), (7, .int r15), (0, .ref (ad k0)), (1, .ref (ad k1)), (6, .int x6)]) hx hb (dc tbX3_choosePlan_1_k 32 rfl) hl (by decide) rfl (fun ls hl => ?_)
        exact tX3_choosePlan_b127 C hk0 hk1 hih40 r27 r15 x4_104 x5_125 x6 M22 hf _ _ _ hI (lv_sub hl [5, 6, 1, 3, 2, 0, 7] rfl)
def mX3_choosePlan_l40 (k0 : Nat) (k1 : Nat) : Nat → Int32 → Int32 → Int32 → Int32 → Int32 → Mem → Option (Mem × Unit)
  | 0 => fun _ _ _ _ _ _ => none
  | n + 1 => mX3_choosePlan_b40 k0 k1 (mX3_choosePlan_l40 k0 k1 n)
theorem tX3_choosePlan_l40 {p : Program} {l : Launch} {e : Env} {s : State} {m : MethodId} {args : Array Value} {below : List Frame} {meth : Method} {c : Code} {G : GT} {kd : Nat → Nat × Nat} {ad : Nat → Nat} (C : Cx p s m args meth c cX3_choosePlan 8 none RX3 G kd ad) {k0 : Nat} {k1 : Nat} (hk0 : kPlanner kd k0) (hk1 : kPart kd k1) {MO : Mem} {vo : Unit}   : ∀ (fuel : Nat) (x2 : Int32) (x3 : Int32) (x4 : Int32) (x5 : Int32) (x6 : Int32) (M : Mem), mX3_choosePlan_l40 k0 k1 fuel x2 x3 x4 x5 x6 M = some (MO, vo) → At p l e (rmO 4 0 0) s m args below meth c 0 0 (MQ below (Qg G kd ad s.heap.size MO none) args s 0 0 (AS kd ad s.heap.size)) G kd ad 8 40 [(0, .ref (ad k0)), (1, .ref (ad k1)), (2, .int x2), (3, .int x3), (4, .int x4), (5, .int x5), (6, .int x6)] [] M := by
  intro fuel
  induction fuel with
  | zero => intro x2 x3 x4 x5 x6 M hf; cases hf
  | succ n IH => exact tX3_choosePlan_b40 C hk0 hk1 IH
def mX3_choosePlan_b34 (k0 : Nat) (k1 : Nat) (x2 : Int32) (x3 : Int32) (x4 : Int32) (x5 : Int32) (y1 : Int32) (M : Mem) : Option (Mem × Unit) := bnd (wr M k0 3 y1) (fun M10 => mX3_choosePlan_l40 k0 k1 5000 x2 x3 x4 x5 (0 : Int32) M10)
set_option maxHeartbeats 4000000 in
set_option maxRecDepth 100000 in
theorem tX3_choosePlan_b34 {p : Program} {l : Launch} {e : Env} {s : State} {m : MethodId} {args : Array Value} {below : List Frame} {meth : Method} {c : Code} {G : GT} {kd : Nat → Nat × Nat} {ad : Nat → Nat} (C : Cx p s m args meth c cX3_choosePlan 8 none RX3 G kd ad) {k0 : Nat} {k1 : Nat} (hk0 : kPlanner kd k0) (hk1 : kPart kd k1) {MO : Mem} {vo : Unit}   : ∀ (x2 : Int32) (x3 : Int32) (x4 : Int32) (x5 : Int32) (y1 : Int32) (M : Mem), mX3_choosePlan_b34 k0 k1 x2 x3 x4 x5 y1 M = some (MO, vo) → At p l e (rmO 4 0 0) s m args below meth c 0 0 (MQ below (Qg G kd ad s.heap.size MO none) args s 0 0 (AS kd ad s.heap.size)) G kd ad 8 34 [(0, .ref (ad k0)), (1, .ref (ad k1)), (2, .int x2), (3, .int x3), (4, .int x4), (5, .int x5)] [.int y1, .ref (ad k0)] M := by
  intro x2 x3 x4 x5 y1 M hf H locs ls hI hl
  obtain ⟨hx, hb, hml, hr, hown, hts, hlk, hK, hap, hsx⟩ := id C
  unfold mX3_choosePlan_b34 at hf
  obtain ⟨M10, e11, hf⟩ := bnd_s hf
  refine gp3_3 hx hb hts hown hK hap hI hk0.1 q_t2_10 (dc tbX3_choosePlan_0_k 19 rfl) e11 (fun H locs hI => ?_)
  refine lv_iconst (v := 0) hx hb (dc tbX3_choosePlan_0_k 20 rfl) ic_0 ?_
  refine lv_istore (lv' := [(6, .int (0 : Int32)), (0, .ref (ad k0)), (1, .ref (ad k1)), (2, .int x2), (3, .int x3), (4, .int x4), (5, .int x5)]) hx hb (dc tbX3_choosePlan_0_k 21 rfl) hl (by decide) rfl (fun ls hl => ?_)
  exact tX3_choosePlan_l40 C hk0 hk1 5000 x2 x3 x4 x5 (0 : Int32) M10 hf _ _ _ hI (lv_sub hl [1, 2, 3, 4, 5, 6, 0] rfl)
def mX3_choosePlan (k0 : Nat) (k1 : Nat) (M : Mem) : Option (Mem × Unit) := bnd ((rd M k1 13)) (fun x2_4 => cap (mX1_lastCode k1 M) (fun r3 => cap (mX1_lastGauge k1 M) (fun r6 => bnd ((rd M k0 0)) (fun x5_20 => ite2 (x5_20 = (-1 : Int32)) (mX3_choosePlan_b34 k0 k1 x2_4 r3 r6 x5_20 (-1 : Int32) M) (mX3_choosePlan_b34 k0 k1 x2_4 r3 r6 x5_20 (0 : Int32) M)))))
set_option maxHeartbeats 4000000 in
set_option maxRecDepth 100000 in
theorem tX3_choosePlan (l : Launch) {G : GT} {kd : Nat → Nat × Nat} {ad : Nat → Nat} {k0 : Nat} {k1 : Nat} (hk0 : kPlanner kd k0) (hk1 : kPart kd k1) {M : Mem} {MO : Mem} {vo : Unit} (hf : mX3_choosePlan k0 k1 M = some (MO, vo)) (n : Nat) : Met l yX3_choosePlan (Cond.code yX3_choosePlan cX3_choosePlan 8 none :: WA) (rmO 4 0 0) (Pg G kd ad n [.ref (ad k0), .ref (ad k1)] M) (Qg G kd ad n MO none) 0 0 (AS kd ad n) := by
  refine g_body (own := RX3) (by decide) rfl ?_ (Nat.le_of_ble_eq_true rfl)
  intro p e s m args below meth c C _ H locs ls hI hl
  obtain ⟨hx, hb, hml, hr, hown, hts, hlk, hK, hap, hsx⟩ := id C
  have hl : lv_has ls 8 [(0, .ref (ad k0)), (1, .ref (ad k1))] := hl
  unfold mX3_choosePlan at hf
  refine lv_aload_n hx hb (dc tbX3_choosePlan_0_k 0 rfl) rfl (lv_at hl 1 rfl) ?_
  refine gg1_13 hx hb hts hown hK hI hk1.1 q_t1_127 (dc tbX3_choosePlan_0_k 1 rfl) ?_
  obtain ⟨x2_4, e1, hf⟩ := bnd_s hf
  refine lv_ei e1 ?_
  refine lv_istore_n (lv' := [(2, .int x2_4), (0, .ref (ad k0)), (1, .ref (ad k1))]) hx hb (dc tbX3_choosePlan_0_k 2 rfl) rfl hl (by decide) rfl (fun ls hl => ?_)
  refine lv_aload_n hx hb (dc tbX3_choosePlan_0_k 3 rfl) rfl (lv_at hl 2 rfl) ?_
  obtain ⟨r3, q2, hf⟩ := cap_s hf
  refine g_callVi hx hb hml hown hts hK hap hsx hI (tX1_lastCode l hk1 q2 H.size) cv_X1_lastCode q_t3_129 rfl rfl ⟨Nat.le_of_ble_eq_true rfl, Nat.le_of_ble_eq_true rfl⟩ hk1.1 (by simp) rfl rfl rfl hl.1 rfl (Nat.le_of_ble_eq_true rfl) (dc tbX3_choosePlan_0_k 4 rfl) ⟨Nat.le_of_ble_eq_true rfl, Nat.le_of_ble_eq_true rfl⟩ (fun H locs hI => ?_)
  refine lv_istore_n (lv' := [(3, .int r3), (2, .int x2_4), (0, .ref (ad k0)), (1, .ref (ad k1))]) hx hb (dc tbX3_choosePlan_0_k 5 rfl) rfl hl (by decide) rfl (fun ls hl => ?_)
  refine lv_aload_n hx hb (dc tbX3_choosePlan_0_k 6 rfl) rfl (lv_at hl 3 rfl) ?_
  obtain ⟨r6, q5, hf⟩ := cap_s hf
  refine g_callVi hx hb hml hown hts hK hap hsx hI (tX1_lastGauge l hk1 q5 H.size) cv_X1_lastGauge q_t3_130 rfl rfl ⟨Nat.le_of_ble_eq_true rfl, Nat.le_of_ble_eq_true rfl⟩ hk1.1 (by simp) rfl rfl rfl hl.1 rfl (Nat.le_of_ble_eq_true rfl) (dc tbX3_choosePlan_0_k 7 rfl) ⟨Nat.le_of_ble_eq_true rfl, Nat.le_of_ble_eq_true rfl⟩ (fun H locs hI => ?_)
  refine lv_istore (lv' := [(4, .int r6), (3, .int r3), (2, .int x2_4), (0, .ref (ad k0)), (1, .ref (ad k1))]) hx hb (dc tbX3_choosePlan_0_k 8 rfl) hl (by decide) rfl (fun ls hl => ?_)
  refine lv_aload_n hx hb (dc tbX3_choosePlan_0_k 9 rfl) rfl (lv_at hl 3 rfl) ?_
  refine gg3_0 hx hb hts hown hK hI hk0.1 q_t2_4 (dc tbX3_choosePlan_0_k 10 rfl) ?_
  obtain ⟨x5_20, e8, hf⟩ := bnd_s hf
  refine lv_ei e8 ?_
  refine lv_istore (lv' := [(5, .int x5_20), (4, .int r6), (3, .int r3), (2, .int x2_4), (0, .ref (ad k0)), (1, .ref (ad k1))]) hx hb (dc tbX3_choosePlan_0_k 11 rfl) hl (by decide) rfl (fun ls hl => ?_)
  refine lv_aload_n hx hb (dc tbX3_choosePlan_0_k 12 rfl) rfl (lv_at hl 4 rfl) ?_
  refine lv_iload hx hb (dc tbX3_choosePlan_0_k 13 rfl) (lv_at hl 0 rfl) ?_
  refine lv_iconst (v := -1) hx hb (dc tbX3_choosePlan_0_k 14 rfl) ic_m1 ?_
  refine lv_icmp_ne (tgt := 33) hx hb (dc tbX3_choosePlan_0_k 15 rfl) rfl (fun c9 => ?_) (fun c9 => ?_)
  · have hf := ite_f c9 hf
    refine lv_iconst (v := 0) hx hb (dc tbX3_choosePlan_0_k 18 rfl) ic_0 ?_
    exact tX3_choosePlan_b34 C hk0 hk1 x2_4 r3 r6 x5_20 (0 : Int32) M hf _ _ _ hI (lv_sub hl [4, 5, 3, 2, 1, 0] rfl)
  · have hf := ite_t c9 hf
    refine lv_iconst (v := -1) hx hb (dc tbX3_choosePlan_0_k 16 rfl) ic_m1 ?_
    refine lv_goto (tgt := 34) hx hb (dc tbX3_choosePlan_0_k 17 rfl) rfl ?_
    exact tX3_choosePlan_b34 C hk0 hk1 x2_4 r3 r6 x5_20 (-1 : Int32) M hf _ _ _ hI (lv_sub hl [4, 5, 3, 2, 1, 0] rfl)
theorem cv_X3_choosePlan : cvF RX3 yX3_choosePlan cX3_choosePlan 8 none 1 := ⟨q_t3_133, q_s1_15, q_t1_6, q_t3_134, by decide +kernel⟩
def mX3_prepare_b30 (k0 : Nat) (k1 : Nat) (M : Mem) : Option (Mem × Unit) := cal (mX3_reachSets k0 k1 M) (fun M4 _ => cal (mX3_countOrders k0 k1 M4) (fun M7 _ => cal (mX3_reckonCosts k0 k1 M7) (fun M10 _ => cal (mX3_choosePlan k0 k1 M10) (fun M13 _ => bnd (wr M13 k0 6 (1 : Int32)) (fun M14 => some (M14, ()))))))
set_option maxHeartbeats 4000000 in
set_option maxRecDepth 100000 in
theorem tX3_prepare_b30 {p : Program} {l : Launch} {e : Env} {s : State} {m : MethodId} {args : Array Value} {below : List Frame} {meth : Method} {c : Code} {G : GT} {kd : Nat → Nat × Nat} {ad : Nat → Nat} (C : Cx p s m args meth c cX3_prepare 2 none RX3 G kd ad) {k0 : Nat} {k1 : Nat} (hk0 : kPlanner kd k0) (hk1 : kPart kd k1) {MO : Mem} {vo : Unit}   : ∀  (M : Mem), mX3_prepare_b30 k0 k1 M = some (MO, vo) → At p l e (rmO 6 0 0) s m args below meth c 0 0 (MQ below (Qg G kd ad s.heap.size MO none) args s 0 0 (AS kd ad s.heap.size)) G kd ad 2 30 [(0, .ref (ad k0)), (1, .ref (ad k1))] [] M := by
  intro M hf H locs ls hI hl
  obtain ⟨hx, hb, hml, hr, hown, hts, hlk, hK, hap, hsx⟩ := id C
  unfold mX3_prepare_b30 at hf
  refine lv_aload_n hx hb (dc tbX3_prepare_k 14 rfl) rfl (lv_at hl 0 rfl) ?_
  refine lv_aload_n hx hb (dc tbX3_prepare_k 15 rfl) rfl (lv_at hl 1 rfl) ?_
  obtain ⟨M4, r3, q2, hf⟩ := cal_s hf
  refine g_callVv hx hb hml hown hts hK hap hsx hI (tX3_reachSets l hk0 hk1 q2 H.size) cv_X3_reachSets q_t3_79 rfl rfl ⟨Nat.le_of_ble_eq_true rfl, Nat.le_of_ble_eq_true rfl⟩ hk0.1 (by simp) rfl rfl rfl hl.1 rfl (Nat.le_of_ble_eq_true rfl) (dc tbX3_prepare_k 16 rfl) ⟨Nat.le_of_ble_eq_true rfl, Nat.le_of_ble_eq_true rfl⟩ (fun H locs hI => ?_)
  refine lv_aload_n hx hb (dc tbX3_prepare_k 17 rfl) rfl (lv_at hl 0 rfl) ?_
  refine lv_aload_n hx hb (dc tbX3_prepare_k 18 rfl) rfl (lv_at hl 1 rfl) ?_
  obtain ⟨M7, r6, q5, hf⟩ := cal_s hf
  refine g_callVv hx hb hml hown hts hK hap hsx hI (tX3_countOrders l hk0 hk1 q5 H.size) cv_X3_countOrders q_t3_104 rfl rfl ⟨Nat.le_of_ble_eq_true rfl, Nat.le_of_ble_eq_true rfl⟩ hk0.1 (by simp) rfl rfl rfl hl.1 rfl (Nat.le_of_ble_eq_true rfl) (dc tbX3_prepare_k 19 rfl) ⟨Nat.le_of_ble_eq_true rfl, Nat.le_of_ble_eq_true rfl⟩ (fun H locs hI => ?_)
  refine lv_aload_n hx hb (dc tbX3_prepare_k 20 rfl) rfl (lv_at hl 0 rfl) ?_
  refine lv_aload_n hx hb (dc tbX3_prepare_k 21 rfl) rfl (lv_at hl 1 rfl) ?_
  obtain ⟨M10, r9, q8, hf⟩ := cal_s hf
  refine g_callVv hx hb hml hown hts hK hap hsx hI (tX3_reckonCosts l hk0 hk1 q8 H.size) cv_X3_reckonCosts q_t3_109 rfl rfl ⟨Nat.le_of_ble_eq_true rfl, Nat.le_of_ble_eq_true rfl⟩ hk0.1 (by simp) rfl rfl rfl hl.1 rfl (Nat.le_of_ble_eq_true rfl) (dc tbX3_prepare_k 22 rfl) ⟨Nat.le_of_ble_eq_true rfl, Nat.le_of_ble_eq_true rfl⟩ (fun H locs hI => ?_)
  refine lv_aload_n hx hb (dc tbX3_prepare_k 23 rfl) rfl (lv_at hl 0 rfl) ?_
  refine lv_aload_n hx hb (dc tbX3_prepare_k 24 rfl) rfl (lv_at hl 1 rfl) ?_
  obtain ⟨M13, r12, q11, hf⟩ := cal_s hf
  refine g_callVv hx hb hml hown hts hK hap hsx hI (tX3_choosePlan l hk0 hk1 q11 H.size) cv_X3_choosePlan q_t3_131 rfl rfl ⟨Nat.le_of_ble_eq_true rfl, Nat.le_of_ble_eq_true rfl⟩ hk0.1 (by simp) rfl rfl rfl hl.1 rfl (Nat.le_of_ble_eq_true rfl) (dc tbX3_prepare_k 25 rfl) ⟨Nat.le_of_ble_eq_true rfl, Nat.le_of_ble_eq_true rfl⟩ (fun H locs hI => ?_)
  refine lv_aload_n hx hb (dc tbX3_prepare_k 26 rfl) rfl (lv_at hl 0 rfl) ?_
  refine lv_iconst (v := 1) hx hb (dc tbX3_prepare_k 27 rfl) ic_1 ?_
  obtain ⟨M14, e15, hf⟩ := bnd_s hf
  refine gp3_6 hx hb hts hown hK hap hI hk0.1 q_t2_14 (dc tbX3_prepare_k 28 rfl) rfl rfl e15 (fun H locs hI => ?_)
  cases hf
  exact g_vret hx hb hr hlk hI (dc tbX3_prepare_k 29 rfl)
def mX3_prepare (k0 : Nat) (k1 : Nat) (M : Mem) : Option (Mem × Unit) := ite2 ((rd M k0 6) = 0) (mX3_prepare_b30 k0 k1 M) (cap (mX1_bendsLike k1 (k0 + 9) M) (fun r17 => ite2 (r17 = 0) (mX3_prepare_b30 k0 k1 M) (cap (mX1_goesOnLike k1 (k0 + 9) M) (fun r21 => ite2 (r21 = 0) (mX3_prepare_b30 k0 k1 M) (some (M, ()))))))
set_option maxHeartbeats 4000000 in
set_option maxRecDepth 100000 in
theorem tX3_prepare (l : Launch) {G : GT} {kd : Nat → Nat × Nat} {ad : Nat → Nat} {k0 : Nat} {k1 : Nat} (hk0 : kPlanner kd k0) (hk1 : kPart kd k1) {M : Mem} {MO : Mem} {vo : Unit} (hf : mX3_prepare k0 k1 M = some (MO, vo)) (n : Nat) : Met l yX3_prepare (Cond.code yX3_prepare cX3_prepare 2 none :: WA) (rmO 6 0 0) (Pg G kd ad n [.ref (ad k0), .ref (ad k1)] M) (Qg G kd ad n MO none) 0 0 (AS kd ad n) := by
  refine g_body (own := RX3) (by decide) rfl ?_ (Nat.le_of_ble_eq_true rfl)
  intro p e s m args below meth c C _ H locs ls hI hl
  obtain ⟨hx, hb, hml, hr, hown, hts, hlk, hK, hap, hsx⟩ := id C
  have hl : lv_has ls 2 [(0, .ref (ad k0)), (1, .ref (ad k1))] := hl
  unfold mX3_prepare at hf
  refine lv_aload_n hx hb (dc tbX3_prepare_k 0 rfl) rfl (lv_at hl 0 rfl) ?_
  refine gg3_6 hx hb hts hown hK hI hk0.1 q_t2_14 (dc tbX3_prepare_k 1 rfl) ?_
  refine lv_if_eq (tgt := 30) hx hb (dc tbX3_prepare_k 2 rfl) rfl (fun c1 => ?_) (fun c1 => ?_)
  · have hf := ite_t c1 hf
    exact tX3_prepare_b30 C hk0 hk1 M hf _ _ _ hI (lv_sub hl [0, 1] rfl)
  · have hf := ite_f c1 hf
    refine lv_aload_n hx hb (dc tbX3_prepare_k 3 rfl) rfl (lv_at hl 1 rfl) ?_
    refine lv_aload_n hx hb (dc tbX3_prepare_k 4 rfl) rfl (lv_at hl 0 rfl) ?_
    refine gg3_5 hx hb hts hown hK hI hk0.1 q_t2_13 (dc tbX3_prepare_k 5 rfl) ?_
    obtain ⟨r17, q16, hf⟩ := cap_s hf
    refine g_callVi hx hb hml hown hts hK hap hsx hI (tX1_bendsLike l hk1 hk0.2.2.2.1 q16 H.size) cv_X1_bendsLike q_t3_63 rfl rfl ⟨Nat.le_of_ble_eq_true rfl, Nat.le_of_ble_eq_true rfl⟩ hk1.1 (by simp) rfl rfl rfl hl.1 rfl (Nat.le_of_ble_eq_true rfl) (dc tbX3_prepare_k 6 rfl) ⟨Nat.le_of_ble_eq_true rfl, Nat.le_of_ble_eq_true rfl⟩ (fun H locs hI => ?_)
    refine lv_if_eq (tgt := 30) hx hb (dc tbX3_prepare_k 7 rfl) rfl (fun c19 => ?_) (fun c19 => ?_)
    · have hf := ite_t c19 hf
      exact tX3_prepare_b30 C hk0 hk1 M hf _ _ _ hI (lv_sub hl [0, 1] rfl)
    · have hf := ite_f c19 hf
      refine lv_aload_n hx hb (dc tbX3_prepare_k 8 rfl) rfl (lv_at hl 1 rfl) ?_
      refine lv_aload_n hx hb (dc tbX3_prepare_k 9 rfl) rfl (lv_at hl 0 rfl) ?_
      refine gg3_5 hx hb hts hown hK hI hk0.1 q_t2_13 (dc tbX3_prepare_k 10 rfl) ?_
      obtain ⟨r21, q20, hf⟩ := cap_s hf
      refine g_callVi hx hb hml hown hts hK hap hsx hI (tX1_goesOnLike l hk1 hk0.2.2.2.1 q20 H.size) cv_X1_goesOnLike q_t3_67 rfl rfl ⟨Nat.le_of_ble_eq_true rfl, Nat.le_of_ble_eq_true rfl⟩ hk1.1 (by simp) rfl rfl rfl hl.1 rfl (Nat.le_of_ble_eq_true rfl) (dc tbX3_prepare_k 11 rfl) ⟨Nat.le_of_ble_eq_true rfl, Nat.le_of_ble_eq_true rfl⟩ (fun H locs hI => ?_)
      refine lv_if_eq (tgt := 30) hx hb (dc tbX3_prepare_k 12 rfl) rfl (fun c23 => ?_) (fun c23 => ?_)
      · have hf := ite_t c23 hf
        exact tX3_prepare_b30 C hk0 hk1 M hf _ _ _ hI (lv_sub hl [0, 1] rfl)
      · have hf := ite_f c23 hf
        cases hf
        exact g_vret hx hb hr hlk hI (dc tbX3_prepare_k 13 rfl)
theorem cv_X3_prepare : cvF RX3 yX3_prepare cX3_prepare 2 none 1 := ⟨q_t3_60, q_t3_61, q_t1_6, q_t3_62, by decide +kernel⟩
def mX3_reachesAll (k0 : Nat) (k1 : Nat) (M : Mem) : Option (Mem × Int32) := cal (mX3_reachSets k0 k1 M) (fun M3 _ => cap (mX1_allBends k1 M3) (fun r5 => chk (okb r5 256) (chk (isB (rd M3 (k0 + 18) (r5).toNatClampNeg)) (some (M3, (rd M3 (k0 + 18) (r5).toNatClampNeg))))))
set_option maxHeartbeats 4000000 in
set_option maxRecDepth 100000 in
theorem tX3_reachesAll (l : Launch) {G : GT} {kd : Nat → Nat × Nat} {ad : Nat → Nat} {k0 : Nat} {k1 : Nat} (hk0 : kPlanner kd k0) (hk1 : kPart kd k1) {M : Mem} {MO : Mem} {vo : Int32} (hf : mX3_reachesAll k0 k1 M = some (MO, vo)) (n : Nat) : Met l yX3_reachesAll (Cond.code yX3_reachesAll cX3_reachesAll 2 (some .boolean) :: WA) (rmO 5 0 0) (Pg G kd ad n [.ref (ad k0), .ref (ad k1)] M) (Qg G kd ad n MO (some (.int vo))) 0 0 (AS kd ad n) := by
  refine g_body (own := RX3) (by decide) rfl ?_ (Nat.le_of_ble_eq_true rfl)
  intro p e s m args below meth c C _ H locs ls hI hl
  obtain ⟨hx, hb, hml, hr, hown, hts, hlk, hK, hap, hsx⟩ := id C
  have hl : lv_has ls 2 [(0, .ref (ad k0)), (1, .ref (ad k1))] := hl
  unfold mX3_reachesAll at hf
  refine lv_aload_n hx hb (dc tbX3_reachesAll_k 0 rfl) rfl (lv_at hl 0 rfl) ?_
  refine lv_aload_n hx hb (dc tbX3_reachesAll_k 1 rfl) rfl (lv_at hl 1 rfl) ?_
  obtain ⟨M3, r2, q1, hf⟩ := cal_s hf
  refine g_callVv hx hb hml hown hts hK hap hsx hI (tX3_reachSets l hk0 hk1 q1 H.size) cv_X3_reachSets q_t3_79 rfl rfl ⟨Nat.le_of_ble_eq_true rfl, Nat.le_of_ble_eq_true rfl⟩ hk0.1 (by simp) rfl rfl rfl hl.1 rfl (Nat.le_of_ble_eq_true rfl) (dc tbX3_reachesAll_k 2 rfl) ⟨Nat.le_of_ble_eq_true rfl, Nat.le_of_ble_eq_true rfl⟩ (fun H locs hI => ?_)
  refine lv_aload_n hx hb (dc tbX3_reachesAll_k 3 rfl) rfl (lv_at hl 0 rfl) ?_
  refine gg3_8 hx hb hts hown hK hI hk0.1 q_t2_16 (dc tbX3_reachesAll_k 4 rfl) ?_
  refine lv_aload_n hx hb (dc tbX3_reachesAll_k 5 rfl) rfl (lv_at hl 1 rfl) ?_
  obtain ⟨r5, q4, hf⟩ := cap_s hf
  refine g_callVi hx hb hml hown hts hK hap hsx hI (tX1_allBends l hk1 q4 H.size) cv_X1_allBends q_t3_108 rfl rfl ⟨Nat.le_of_ble_eq_true rfl, Nat.le_of_ble_eq_true rfl⟩ hk1.1 (by simp) rfl rfl rfl hl.1 rfl (Nat.le_of_ble_eq_true rfl) (dc tbX3_reachesAll_k 6 rfl) ⟨Nat.le_of_ble_eq_true rfl, Nat.le_of_ble_eq_true rfl⟩ (fun H locs hI => ?_)
  obtain ⟨h7, hf⟩ := chk_s hf
  refine g_zald hx hb hK hI hk0.2.2.2.2.2.1 (okb_in h7) (dc tbX3_reachesAll_k 7 rfl) ?_
  obtain ⟨h8, hf⟩ := chk_s hf
  cases hf
  exact g_zret hx hb hr hlk hI (isB_n h8) (dc tbX3_reachesAll_k 8 rfl)
theorem cv_X3_reachesAll : cvF RX3 yX3_reachesAll cX3_reachesAll 2 (some .boolean) 1 := ⟨q_t3_184, q_t3_185, q_t1_6, q_t3_186, by decide +kernel⟩
def mX3_ordersFrom_b25 (k0 : Nat) (M : Mem) (x1 : Int32) (y0 : Int32) : Option Int64 := ite2 (y0 = 0) (some (0 : Int64)) (chk (okb x1 256) (some (rl M (k0 + 19) (x1).toNatClampNeg)))
set_option maxHeartbeats 4000000 in
set_option maxRecDepth 100000 in
theorem tX3_ordersFrom_b25 {p : Program} {l : Launch} {e : Env} {s : State} {m : MethodId} {args : Array Value} {below : List Frame} {meth : Method} {c : Code} {G : GT} {kd : Nat → Nat × Nat} {ad : Nat → Nat} (C : Cx p s m args meth c cX3_ordersFrom 3 (some .long) RX3 G kd ad) {k0 : Nat} (hk0 : kPlanner kd k0) {M : Mem} {vo : Int64}   : ∀ (x1 : Int32) (y0 : Int32), mX3_ordersFrom_b25 k0 M x1 y0 = some vo → At p l e (rmO 0 0 0) s m args below meth c 0 0 (MQ below (Qg G kd ad s.heap.size M (some (.long vo))) args s 0 0 (AS kd ad s.heap.size)) G kd ad 3 25 [(0, .ref (ad k0)), (1, .int x1)] [.int y0] M := by
  intro x1 y0 hf H locs ls hI hl
  obtain ⟨hx, hb, hml, hr, hown, hts, hlk, hK, hap, hsx⟩ := id C
  unfold mX3_ordersFrom_b25 at hf
  refine lv_istore_n (lv' := [(2, .int y0), (0, .ref (ad k0)), (1, .int x1)]) hx hb (dc tbX3_ordersFrom_k 13 rfl) rfl hl (by decide) rfl (fun ls hl => ?_)
  refine lv_iload_n hx hb (dc tbX3_ordersFrom_k 14 rfl) rfl (lv_at hl 0 rfl) ?_
  refine lv_if_eq (tgt := 39) hx hb (dc tbX3_ordersFrom_k 15 rfl) rfl (fun c2 => ?_) (fun c2 => ?_)
  · have hf := ite_t c2 hf
    refine lv_lconst (v := 0) hx hb (dc tbX3_ordersFrom_k 21 rfl) (by decide) ?_
    cases hf
    exact g_lret hx hb hr hlk hI (dc tbX3_ordersFrom_k 22 rfl)
  · have hf := ite_f c2 hf
    refine lv_aload_n hx hb (dc tbX3_ordersFrom_k 16 rfl) rfl (lv_at hl 1 rfl) ?_
    refine gg3_9 hx hb hts hown hK hI hk0.1 q_t2_17 (dc tbX3_ordersFrom_k 17 rfl) ?_
    refine lv_iload_n hx hb (dc tbX3_ordersFrom_k 18 rfl) rfl (lv_at hl 2 rfl) ?_
    obtain ⟨h3, hf⟩ := chk_s hf
    refine g_lald hx hb hK hI hk0.2.2.2.2.2.2.1 (okb_in h3) (dc tbX3_ordersFrom_k 19 rfl) ?_
    refine lv_goto (tgt := 40) hx hb (dc tbX3_ordersFrom_k 20 rfl) rfl ?_
    cases hf
    exact g_lret hx hb hr hlk hI (dc tbX3_ordersFrom_k 22 rfl)
def mX3_ordersFrom_b24 (k0 : Nat) (M : Mem) (x1 : Int32) : Option Int64 := mX3_ordersFrom_b25 k0 M x1 (0 : Int32)
set_option maxHeartbeats 4000000 in
set_option maxRecDepth 100000 in
theorem tX3_ordersFrom_b24 {p : Program} {l : Launch} {e : Env} {s : State} {m : MethodId} {args : Array Value} {below : List Frame} {meth : Method} {c : Code} {G : GT} {kd : Nat → Nat × Nat} {ad : Nat → Nat} (C : Cx p s m args meth c cX3_ordersFrom 3 (some .long) RX3 G kd ad) {k0 : Nat} (hk0 : kPlanner kd k0) {M : Mem} {vo : Int64}   : ∀ (x1 : Int32), mX3_ordersFrom_b24 k0 M x1 = some vo → At p l e (rmO 0 0 0) s m args below meth c 0 0 (MQ below (Qg G kd ad s.heap.size M (some (.long vo))) args s 0 0 (AS kd ad s.heap.size)) G kd ad 3 24 [(0, .ref (ad k0)), (1, .int x1)] [] M := by
  intro x1 hf H locs ls hI hl
  obtain ⟨hx, hb, hml, hr, hown, hts, hlk, hK, hap, hsx⟩ := id C
  unfold mX3_ordersFrom_b24 at hf
  refine lv_iconst (v := 0) hx hb (dc tbX3_ordersFrom_k 12 rfl) ic_0 ?_
  exact tX3_ordersFrom_b25 C hk0 x1 (0 : Int32) hf _ _ _ hI (lv_sub hl [0, 1] rfl)
def mX3_ordersFrom (k0 : Nat) (x1 : Int32) (M : Mem) : Option Int64 := ite2 (x1 < 0) (mX3_ordersFrom_b24 k0 M x1) (ite2 ((256 : Int32) ≤ x1) (mX3_ordersFrom_b24 k0 M x1) (chk (okb x1 256) (ite2 ((rd M (k0 + 18) (x1).toNatClampNeg) = 0) (mX3_ordersFrom_b24 k0 M x1) (mX3_ordersFrom_b25 k0 M x1 (1 : Int32)))))
set_option maxHeartbeats 4000000 in
set_option maxRecDepth 100000 in
theorem tX3_ordersFrom (l : Launch) {G : GT} {kd : Nat → Nat × Nat} {ad : Nat → Nat} {k0 : Nat} (hk0 : kPlanner kd k0) {x1 : Int32} {M : Mem} {vo : Int64} (hf : mX3_ordersFrom k0 x1 M = some vo) (n : Nat) : Met l yX3_ordersFrom (Cond.code yX3_ordersFrom cX3_ordersFrom 3 (some .long) :: WA) (rmO 0 0 0) (Pg G kd ad n [.ref (ad k0), .int x1] M) (Qg G kd ad n M (some (.long vo))) 0 0 (AS kd ad n) := by
  refine g_body (own := RX3) (by decide) rfl ?_ (Nat.le_of_ble_eq_true rfl)
  intro p e s m args below meth c C _ H locs ls hI hl
  obtain ⟨hx, hb, hml, hr, hown, hts, hlk, hK, hap, hsx⟩ := id C
  have hl : lv_has ls 3 [(0, .ref (ad k0)), (1, .int x1)] := hl
  unfold mX3_ordersFrom at hf
  refine lv_iload_n hx hb (dc tbX3_ordersFrom_k 0 rfl) rfl (lv_at hl 1 rfl) ?_
  refine lv_if_lt (tgt := 24) hx hb (dc tbX3_ordersFrom_k 1 rfl) rfl (fun c1 => ?_) (fun c1 => ?_)
  · have hf := ite_t c1 hf
    exact tX3_ordersFrom_b24 C hk0 x1 hf _ _ _ hI (lv_sub hl [0, 1] rfl)
  · have hf := ite_f c1 hf
    refine lv_iload_n hx hb (dc tbX3_ordersFrom_k 2 rfl) rfl (lv_at hl 1 rfl) ?_
    refine lv_sipush (v := 256) hx hb (dc tbX3_ordersFrom_k 3 rfl) sp_256 ?_
    refine lv_icmp_ge (tgt := 24) hx hb (dc tbX3_ordersFrom_k 4 rfl) rfl (fun c4 => ?_) (fun c4 => ?_)
    · have hf := ite_t c4 hf
      exact tX3_ordersFrom_b24 C hk0 x1 hf _ _ _ hI (lv_sub hl [0, 1] rfl)
    · have hf := ite_f c4 hf
      refine lv_aload_n hx hb (dc tbX3_ordersFrom_k 5 rfl) rfl (lv_at hl 0 rfl) ?_
      refine gg3_8 hx hb hts hown hK hI hk0.1 q_t2_16 (dc tbX3_ordersFrom_k 6 rfl) ?_
      refine lv_iload_n hx hb (dc tbX3_ordersFrom_k 7 rfl) rfl (lv_at hl 1 rfl) ?_
      obtain ⟨h5, hf⟩ := chk_s hf
      refine g_zald hx hb hK hI hk0.2.2.2.2.2.1 (okb_in h5) (dc tbX3_ordersFrom_k 8 rfl) ?_
      refine lv_if_eq (tgt := 24) hx hb (dc tbX3_ordersFrom_k 9 rfl) rfl (fun c6 => ?_) (fun c6 => ?_)
      · have hf := ite_t c6 hf
        exact tX3_ordersFrom_b24 C hk0 x1 hf _ _ _ hI (lv_sub hl [0, 1] rfl)
      · have hf := ite_f c6 hf
        refine lv_iconst (v := 1) hx hb (dc tbX3_ordersFrom_k 10 rfl) ic_1 ?_
        refine lv_goto (tgt := 25) hx hb (dc tbX3_ordersFrom_k 11 rfl) rfl ?_
        exact tX3_ordersFrom_b25 C hk0 x1 (1 : Int32) hf _ _ _ hI (lv_sub hl [0, 1] rfl)
theorem cv_X3_ordersFrom : cvF RX3 yX3_ordersFrom cX3_ordersFrom 3 (some .long) 1 := ⟨q_t3_140, q_t3_141, q_t1_6, q_t3_142, by decide +kernel⟩
def mX3_stepsAtTheEnd_b68 (k0 : Nat) (k1 : Nat) (M : Mem) (ih10 : Int32 → Int32 → Int32 → Option Int32) (x2 : Int32) (x3 : Int32) (x4 : Int32) : Option Int32 := bnd (x4 + (1 : Int32)) (fun x4_68 => ih10 x2 x3 x4_68)
set_option maxHeartbeats 4000000 in
set_option maxRecDepth 100000 in
theorem tX3_stepsAtTheEnd_b68 {p : Program} {l : Launch} {e : Env} {s : State} {m : MethodId} {args : Array Value} {below : List Frame} {meth : Method} {c : Code} {G : GT} {kd : Nat → Nat × Nat} {ad : Nat → Nat} (C : Cx p s m args meth c cX3_stepsAtTheEnd 6 (some .int) RX3 G kd ad) {k0 : Nat} {k1 : Nat} (hk0 : kPlanner kd k0) (hk1 : kPart kd k1) {M : Mem} {vo : Int32} {ih10 : Int32 → Int32 → Int32 → Option Int32} (hih10 : ∀ (x2 : Int32) (x3 : Int32) (x4 : Int32), ih10 x2 x3 x4 = some vo → At p l e (rmO 2 0 0) s m args below meth c 0 0 (MQ below (Qg G kd ad s.heap.size M (some (.int vo))) args s 0 0 (AS kd ad s.heap.size)) G kd ad 6 10 [(0, .ref (ad k0)), (1, .ref (ad k1)), (2, .int x2), (3, .int x3), (4, .int x4)] [] M) : ∀ (x2 : Int32) (x3 : Int32) (x4 : Int32), mX3_stepsAtTheEnd_b68 k0 k1 M ih10 x2 x3 x4 = some vo → At p l e (rmO 2 0 0) s m args below meth c 0 0 (MQ below (Qg G kd ad s.heap.size M (some (.int vo))) args s 0 0 (AS kd ad s.heap.size)) G kd ad 6 68 [(0, .ref (ad k0)), (1, .ref (ad k1)), (2, .int x2), (3, .int x3), (4, .int x4)] [] M := by
  intro x2 x3 x4 hf H locs ls hI hl
  obtain ⟨hx, hb, hml, hr, hown, hts, hlk, hK, hap, hsx⟩ := id C
  unfold mX3_stepsAtTheEnd_b68 at hf
  obtain ⟨x4_68, e11, hf⟩ := bnd_s hf
  refine lv_iinc (v := x4_68) (lv' := [(4, .int x4_68), (0, .ref (ad k0)), (1, .ref (ad k1)), (2, .int x2), (3, .int x3)]) hx hb (dc tbX3_stepsAtTheEnd_1_k 1 rfl) hl (k := 4) rfl (ii_e e11 ic_1) (by decide) rfl (fun ls hl => ?_)
  refine lv_goto (tgt := 10) hx hb (dc tbX3_stepsAtTheEnd_1_k 2 rfl) rfl ?_
  exact hih10 x2 x3 x4_68 hf _ _ _ hI (lv_sub hl [1, 2, 3, 4, 0] rfl)
def mX3_stepsAtTheEnd_b10 (k0 : Nat) (k1 : Nat) (M : Mem) (ih10 : Int32 → Int32 → Int32 → Option Int32) (x2 : Int32) (x3 : Int32) (x4 : Int32) : Option Int32 := cap (mX1_bendCount k1 M) (fun r5 => ite2 (r5 ≤ x4) (some x3) (ite2 ((8 : Int32) ≤ x4) (some x3) (bnd ((x2 &&& (((1 : Int32) <<< (x4 &&& 31)) ^^^ (-1 : Int32)))) (fun x5_34 => ite2 ((((rd M k1 13) >>> (x4 &&& 31)) &&& (1 : Int32)) = 0) (chk (okb x5_34 256) (ite2 ((rd M (k0 + 18) (x5_34).toNatClampNeg) = 0) (mX3_stepsAtTheEnd_b68 k0 k1 M ih10 x2 x3 x4) (chk (okb x5_34 256) (bnd ((x3 ||| (rd M (k0 + 17) (x5_34).toNatClampNeg))) (fun x3_67 => mX3_stepsAtTheEnd_b68 k0 k1 M ih10 x2 x3_67 x4))))) (mX3_stepsAtTheEnd_b68 k0 k1 M ih10 x2 x3 x4)))))
set_option maxHeartbeats 4000000 in
set_option maxRecDepth 100000 in
theorem tX3_stepsAtTheEnd_b10 {p : Program} {l : Launch} {e : Env} {s : State} {m : MethodId} {args : Array Value} {below : List Frame} {meth : Method} {c : Code} {G : GT} {kd : Nat → Nat × Nat} {ad : Nat → Nat} (C : Cx p s m args meth c cX3_stepsAtTheEnd 6 (some .int) RX3 G kd ad) {k0 : Nat} {k1 : Nat} (hk0 : kPlanner kd k0) (hk1 : kPart kd k1) {M : Mem} {vo : Int32} {ih10 : Int32 → Int32 → Int32 → Option Int32} (hih10 : ∀ (x2 : Int32) (x3 : Int32) (x4 : Int32), ih10 x2 x3 x4 = some vo → At p l e (rmO 2 0 0) s m args below meth c 0 0 (MQ below (Qg G kd ad s.heap.size M (some (.int vo))) args s 0 0 (AS kd ad s.heap.size)) G kd ad 6 10 [(0, .ref (ad k0)), (1, .ref (ad k1)), (2, .int x2), (3, .int x3), (4, .int x4)] [] M) : ∀ (x2 : Int32) (x3 : Int32) (x4 : Int32), mX3_stepsAtTheEnd_b10 k0 k1 M ih10 x2 x3 x4 = some vo → At p l e (rmO 2 0 0) s m args below meth c 0 0 (MQ below (Qg G kd ad s.heap.size M (some (.int vo))) args s 0 0 (AS kd ad s.heap.size)) G kd ad 6 10 [(0, .ref (ad k0)), (1, .ref (ad k1)), (2, .int x2), (3, .int x3), (4, .int x4)] [] M := by
  intro x2 x3 x4 hf H locs ls hI hl
  obtain ⟨hx, hb, hml, hr, hown, hts, hlk, hK, hap, hsx⟩ := id C
  unfold mX3_stepsAtTheEnd_b10 at hf
  refine lv_iload hx hb (dc tbX3_stepsAtTheEnd_0_k 7 rfl) (lv_at hl 4 rfl) ?_
  refine lv_aload_n hx hb (dc tbX3_stepsAtTheEnd_0_k 8 rfl) rfl (lv_at hl 1 rfl) ?_
  obtain ⟨r5, q4, hf⟩ := cap_s hf
  refine g_callVi hx hb hml hown hts hK hap hsx hI (tX1_bendCount l hk1 q4 H.size) cv_X1_bendCount q_t3_94 rfl rfl ⟨Nat.le_of_ble_eq_true rfl, Nat.le_of_ble_eq_true rfl⟩ hk1.1 (by simp) rfl rfl rfl hl.1 rfl (Nat.le_of_ble_eq_true rfl) (dc tbX3_stepsAtTheEnd_0_k 9 rfl) ⟨Nat.le_of_ble_eq_true rfl, Nat.le_of_ble_eq_true rfl⟩ (fun H locs hI => ?_)
  refine lv_icmp_ge (tgt := 74) hx hb (dc tbX3_stepsAtTheEnd_0_k 10 rfl) rfl (fun c7 => ?_) (fun c7 => ?_)
  · have hf := ite_t c7 hf
    refine lv_iload_n hx hb (dc tbX3_stepsAtTheEnd_1_k 3 rfl) rfl (lv_at hl 3 rfl) ?_
    cases hf
    exact g_iret hx hb hr hlk hI (dc tbX3_stepsAtTheEnd_1_k 4 rfl)
  · have hf := ite_f c7 hf
    refine lv_iload hx hb (dc tbX3_stepsAtTheEnd_0_k 11 rfl) (lv_at hl 4 rfl) ?_
    refine lv_bipush (v := 8) hx hb (dc tbX3_stepsAtTheEnd_0_k 12 rfl) bp_8 ?_
    refine lv_icmp_ge (tgt := 74) hx hb (dc tbX3_stepsAtTheEnd_0_k 13 rfl) rfl (fun c8 => ?_) (fun c8 => ?_)
    · have hf := ite_t c8 hf
      refine lv_iload_n hx hb (dc tbX3_stepsAtTheEnd_1_k 3 rfl) rfl (lv_at hl 3 rfl) ?_
      cases hf
      exact g_iret hx hb hr hlk hI (dc tbX3_stepsAtTheEnd_1_k 4 rfl)
    · have hf := ite_f c8 hf
      refine lv_iload_n hx hb (dc tbX3_stepsAtTheEnd_0_k 14 rfl) rfl (lv_at hl 2 rfl) ?_
      refine lv_iconst (v := 1) hx hb (dc tbX3_stepsAtTheEnd_0_k 15 rfl) ic_1 ?_
      refine lv_iload hx hb (dc tbX3_stepsAtTheEnd_0_k 16 rfl) (lv_at hl 4 rfl) ?_
      refine lv_ishl hx hb (dc tbX3_stepsAtTheEnd_0_k 17 rfl) ?_
      refine lv_iconst (v := -1) hx hb (dc tbX3_stepsAtTheEnd_0_k 18 rfl) ic_m1 ?_
      refine lv_ixor hx hb (dc tbX3_stepsAtTheEnd_0_k 19 rfl) ?_
      refine lv_iand hx hb (dc tbX3_stepsAtTheEnd_0_k 20 rfl) ?_
      obtain ⟨x5_34, e9, hf⟩ := bnd_s hf
      refine lv_ei e9 ?_
      refine lv_istore (lv' := [(5, .int x5_34), (0, .ref (ad k0)), (1, .ref (ad k1)), (2, .int x2), (3, .int x3), (4, .int x4)]) hx hb (dc tbX3_stepsAtTheEnd_0_k 21 rfl) hl (by decide) rfl (fun ls hl => ?_)
      refine lv_aload_n hx hb (dc tbX3_stepsAtTheEnd_0_k 22 rfl) rfl (lv_at hl 2 rfl) ?_
      refine gg1_13 hx hb hts hown hK hI hk1.1 q_t1_127 (dc tbX3_stepsAtTheEnd_0_k 23 rfl) ?_
      refine lv_iload hx hb (dc tbX3_stepsAtTheEnd_0_k 24 rfl) (lv_at hl 5 rfl) ?_
      refine lv_ishr hx hb (dc tbX3_stepsAtTheEnd_0_k 25 rfl) ?_
      refine lv_iconst (v := 1) hx hb (dc tbX3_stepsAtTheEnd_0_k 26 rfl) ic_1 ?_
      refine lv_iand hx hb (dc tbX3_stepsAtTheEnd_0_k 27 rfl) ?_
      refine lv_if_ne (tgt := 68) hx hb (dc tbX3_stepsAtTheEnd_0_k 28 rfl) rfl (fun c10 => ?_) (fun c10 => ?_)
      · have hf := ite_f c10 hf
        exact tX3_stepsAtTheEnd_b68 C hk0 hk1 hih10 x2 x3 x4 hf _ _ _ hI (lv_sub hl [1, 2, 3, 4, 5] rfl)
      · have hf := ite_t c10 hf
        refine lv_aload_n hx hb (dc tbX3_stepsAtTheEnd_0_k 29 rfl) rfl (lv_at hl 1 rfl) ?_
        refine gg3_8 hx hb hts hown hK hI hk0.1 q_t2_16 (dc tbX3_stepsAtTheEnd_0_k 30 rfl) ?_
        refine lv_iload hx hb (dc tbX3_stepsAtTheEnd_0_k 31 rfl) (lv_at hl 0 rfl) ?_
        obtain ⟨h12, hf⟩ := chk_s hf
        refine g_zald hx hb hK hI hk0.2.2.2.2.2.1 (okb_in h12) (dc tbX3_stepsAtTheEnd_0_k 32 rfl) ?_
        refine lv_if_eq (tgt := 68) hx hb (dc tbX3_stepsAtTheEnd_0_k 33 rfl) rfl (fun c13 => ?_) (fun c13 => ?_)
        · have hf := ite_t c13 hf
          exact tX3_stepsAtTheEnd_b68 C hk0 hk1 hih10 x2 x3 x4 hf _ _ _ hI (lv_sub hl [1, 2, 3, 4, 5] rfl)
        · have hf := ite_f c13 hf
          refine lv_iload_n hx hb (dc tbX3_stepsAtTheEnd_0_k 34 rfl) rfl (lv_at hl 4 rfl) ?_
          refine lv_aload_n hx hb (dc tbX3_stepsAtTheEnd_0_k 35 rfl) rfl (lv_at hl 1 rfl) ?_
          refine gg3_7 hx hb hts hown hK hI hk0.1 q_t2_15 (dc tbX3_stepsAtTheEnd_0_k 36 rfl) ?_
          refine lv_iload hx hb (dc tbX3_stepsAtTheEnd_0_k 37 rfl) (lv_at hl 0 rfl) ?_
          obtain ⟨h14, hf⟩ := chk_s hf
          refine g_iald hx hb hK hI hk0.2.2.2.2.1 (okb_in h14) (dc tbX3_stepsAtTheEnd_0_k 38 rfl) ?_
          refine lv_ior hx hb (dc tbX3_stepsAtTheEnd_0_k 39 rfl) ?_
          obtain ⟨x3_67, e15, hf⟩ := bnd_s hf
          refine lv_ei e15 ?_
          refine lv_istore_n (lv' := [(3, .int x3_67), (5, .int x5_34), (0, .ref (ad k0)), (1, .ref (ad k1)), (2, .int x2), (4, .int x4)]) hx hb (dc tbX3_stepsAtTheEnd_1_k 0 rfl) rfl hl (by decide) rfl (fun ls hl => ?_)
          exact tX3_stepsAtTheEnd_b68 C hk0 hk1 hih10 x2 x3_67 x4 hf _ _ _ hI (lv_sub hl [2, 3, 4, 0, 5] rfl)
def mX3_stepsAtTheEnd_l10 (k0 : Nat) (k1 : Nat) (M : Mem) : Nat → Int32 → Int32 → Int32 → Option Int32
  | 0 => fun _ _ _ => none
  | n + 1 => mX3_stepsAtTheEnd_b10 k0 k1 M (mX3_stepsAtTheEnd_l10 k0 k1 M n)
theorem tX3_stepsAtTheEnd_l10 {p : Program} {l : Launch} {e : Env} {s : State} {m : MethodId} {args : Array Value} {below : List Frame} {meth : Method} {c : Code} {G : GT} {kd : Nat → Nat × Nat} {ad : Nat → Nat} (C : Cx p s m args meth c cX3_stepsAtTheEnd 6 (some .int) RX3 G kd ad) {k0 : Nat} {k1 : Nat} (hk0 : kPlanner kd k0) (hk1 : kPart kd k1) {M : Mem} {vo : Int32}   : ∀ (fuel : Nat) (x2 : Int32) (x3 : Int32) (x4 : Int32), mX3_stepsAtTheEnd_l10 k0 k1 M fuel x2 x3 x4 = some vo → At p l e (rmO 2 0 0) s m args below meth c 0 0 (MQ below (Qg G kd ad s.heap.size M (some (.int vo))) args s 0 0 (AS kd ad s.heap.size)) G kd ad 6 10 [(0, .ref (ad k0)), (1, .ref (ad k1)), (2, .int x2), (3, .int x3), (4, .int x4)] [] M := by
  intro fuel
  induction fuel with
  | zero => intro x2 x3 x4 hf; cases hf
  | succ n IH => exact tX3_stepsAtTheEnd_b10 C hk0 hk1 IH
def mX3_stepsAtTheEnd (k0 : Nat) (k1 : Nat) (M : Mem) : Option Int32 := cap (mX1_allBends k1 M) (fun r2 => mX3_stepsAtTheEnd_l10 k0 k1 M 5000 r2 (0 : Int32) (0 : Int32))
set_option maxHeartbeats 4000000 in
set_option maxRecDepth 100000 in
theorem tX3_stepsAtTheEnd (l : Launch) {G : GT} {kd : Nat → Nat × Nat} {ad : Nat → Nat} {k0 : Nat} {k1 : Nat} (hk0 : kPlanner kd k0) (hk1 : kPart kd k1) {M : Mem} {vo : Int32} (hf : mX3_stepsAtTheEnd k0 k1 M = some vo) (n : Nat) : Met l yX3_stepsAtTheEnd (Cond.code yX3_stepsAtTheEnd cX3_stepsAtTheEnd 6 (some .int) :: WA) (rmO 2 0 0) (Pg G kd ad n [.ref (ad k0), .ref (ad k1)] M) (Qg G kd ad n M (some (.int vo))) 0 0 (AS kd ad n) := by
  refine g_body (own := RX3) (by decide) rfl ?_ (Nat.le_of_ble_eq_true rfl)
  intro p e s m args below meth c C _ H locs ls hI hl
  obtain ⟨hx, hb, hml, hr, hown, hts, hlk, hK, hap, hsx⟩ := id C
  have hl : lv_has ls 6 [(0, .ref (ad k0)), (1, .ref (ad k1))] := hl
  unfold mX3_stepsAtTheEnd at hf
  refine lv_aload_n hx hb (dc tbX3_stepsAtTheEnd_0_k 0 rfl) rfl (lv_at hl 1 rfl) ?_
  obtain ⟨r2, q1, hf⟩ := cap_s hf
  refine g_callVi hx hb hml hown hts hK hap hsx hI (tX1_allBends l hk1 q1 H.size) cv_X1_allBends q_t3_108 rfl rfl ⟨Nat.le_of_ble_eq_true rfl, Nat.le_of_ble_eq_true rfl⟩ hk1.1 (by simp) rfl rfl rfl hl.1 rfl (Nat.le_of_ble_eq_true rfl) (dc tbX3_stepsAtTheEnd_0_k 1 rfl) ⟨Nat.le_of_ble_eq_true rfl, Nat.le_of_ble_eq_true rfl⟩ (fun H locs hI => ?_)
  refine lv_istore_n (lv' := [(2, .int r2), (0, .ref (ad k0)), (1, .ref (ad k1))]) hx hb (dc tbX3_stepsAtTheEnd_0_k 2 rfl) rfl hl (by decide) rfl (fun ls hl => ?_)
  refine lv_iconst (v := 0) hx hb (dc tbX3_stepsAtTheEnd_0_k 3 rfl) ic_0 ?_
  refine lv_istore_n (lv' := [(3, .int (0 : Int32)), (2, .int r2), (0, .ref (ad k0)), (1, .ref (ad k1))]) hx hb (dc tbX3_stepsAtTheEnd_0_k 4 rfl) rfl hl (by decide) rfl (fun ls hl => ?_)
  refine lv_iconst (v := 0) hx hb (dc tbX3_stepsAtTheEnd_0_k 5 rfl) ic_0 ?_
  refine lv_istore (lv' := [(4, .int (0 : Int32)), (3, .int (0 : Int32)), (2, .int r2), (0, .ref (ad k0)), (1, .ref (ad k1))]) hx hb (dc tbX3_stepsAtTheEnd_0_k 6 rfl) hl (by decide) rfl (fun ls hl => ?_)
  exact tX3_stepsAtTheEnd_l10 C hk0 hk1 5000 r2 (0 : Int32) (0 : Int32) hf _ _ _ hI (lv_sub hl [3, 4, 2, 1, 0] rfl)
theorem cv_X3_stepsAtTheEnd : cvF RX3 yX3_stepsAtTheEnd cX3_stepsAtTheEnd 6 (some .int) 1 := ⟨q_t3_160, q_t3_161, q_t1_6, q_t3_162, by decide +kernel⟩
def mX3_mostBendsFrom_b29 (k0 : Nat) (k1 : Nat) (M : Mem) (ih4 : Int32 → Int32 → Option Int32) (x2 : Int32) (x3 : Int32) : Option Int32 := bnd (x3 + (1 : Int32)) (fun x3_29 => ih4 x2 x3_29)
set_option maxHeartbeats 4000000 in
set_option maxRecDepth 100000 in
theorem tX3_mostBendsFrom_b29 {p : Program} {l : Launch} {e : Env} {s : State} {m : MethodId} {args : Array Value} {below : List Frame} {meth : Method} {c : Code} {G : GT} {kd : Nat → Nat × Nat} {ad : Nat → Nat} (C : Cx p s m args meth c cX3_mostBendsFrom 4 (some .int) RX3 G kd ad) {k0 : Nat} {k1 : Nat} (hk0 : kPlanner kd k0) (hk1 : kPart kd k1) {M : Mem} {vo : Int32} {ih4 : Int32 → Int32 → Option Int32} (hih4 : ∀ (x2 : Int32) (x3 : Int32), ih4 x2 x3 = some vo → At p l e (rmO 1 0 0) s m args below meth c 0 0 (MQ below (Qg G kd ad s.heap.size M (some (.int vo))) args s 0 0 (AS kd ad s.heap.size)) G kd ad 4 4 [(0, .ref (ad k0)), (1, .ref (ad k1)), (2, .int x2), (3, .int x3)] [] M) : ∀ (x2 : Int32) (x3 : Int32), mX3_mostBendsFrom_b29 k0 k1 M ih4 x2 x3 = some vo → At p l e (rmO 1 0 0) s m args below meth c 0 0 (MQ below (Qg G kd ad s.heap.size M (some (.int vo))) args s 0 0 (AS kd ad s.heap.size)) G kd ad 4 29 [(0, .ref (ad k0)), (1, .ref (ad k1)), (2, .int x2), (3, .int x3)] [] M := by
  intro x2 x3 hf H locs ls hI hl
  obtain ⟨hx, hb, hml, hr, hown, hts, hlk, hK, hap, hsx⟩ := id C
  unfold mX3_mostBendsFrom_b29 at hf
  obtain ⟨x3_29, e7, hf⟩ := bnd_s hf
  refine lv_iinc (v := x3_29) (lv' := [(3, .int x3_29), (0, .ref (ad k0)), (1, .ref (ad k1)), (2, .int x2)]) hx hb (dc tbX3_mostBendsFrom_k 17 rfl) hl (k := 3) rfl (ii_e e7 ic_1) (by decide) rfl (fun ls hl => ?_)
  refine lv_goto (tgt := 4) hx hb (dc tbX3_mostBendsFrom_k 18 rfl) rfl ?_
  exact hih4 x2 x3_29 hf _ _ _ hI (lv_sub hl [1, 2, 3, 0] rfl)
def mX3_mostBendsFrom_b4 (k0 : Nat) (k1 : Nat) (M : Mem) (ih4 : Int32 → Int32 → Option Int32) (x2 : Int32) (x3 : Int32) : Option Int32 := ite2 ((256 : Int32) ≤ x3) (cap (mJ6_bitCount_0f7a4 (rd M k1 13) M) (fun r3 => some (x2 - r3))) (chk (okb x3 256) (ite2 ((rd M (k0 + 18) (x3).toNatClampNeg) = 0) (mX3_mostBendsFrom_b29 k0 k1 M ih4 x2 x3) (cap (mJ6_bitCount_0f7a4 x3 M) (fun r9 => bnd ((imax x2 r9)) (fun x2_28 => mX3_mostBendsFrom_b29 k0 k1 M ih4 x2_28 x3)))))
set_option maxHeartbeats 4000000 in
set_option maxRecDepth 100000 in
theorem tX3_mostBendsFrom_b4 {p : Program} {l : Launch} {e : Env} {s : State} {m : MethodId} {args : Array Value} {below : List Frame} {meth : Method} {c : Code} {G : GT} {kd : Nat → Nat × Nat} {ad : Nat → Nat} (C : Cx p s m args meth c cX3_mostBendsFrom 4 (some .int) RX3 G kd ad) {k0 : Nat} {k1 : Nat} (hk0 : kPlanner kd k0) (hk1 : kPart kd k1) {M : Mem} {vo : Int32} {ih4 : Int32 → Int32 → Option Int32} (hih4 : ∀ (x2 : Int32) (x3 : Int32), ih4 x2 x3 = some vo → At p l e (rmO 1 0 0) s m args below meth c 0 0 (MQ below (Qg G kd ad s.heap.size M (some (.int vo))) args s 0 0 (AS kd ad s.heap.size)) G kd ad 4 4 [(0, .ref (ad k0)), (1, .ref (ad k1)), (2, .int x2), (3, .int x3)] [] M) : ∀ (x2 : Int32) (x3 : Int32), mX3_mostBendsFrom_b4 k0 k1 M ih4 x2 x3 = some vo → At p l e (rmO 1 0 0) s m args below meth c 0 0 (MQ below (Qg G kd ad s.heap.size M (some (.int vo))) args s 0 0 (AS kd ad s.heap.size)) G kd ad 4 4 [(0, .ref (ad k0)), (1, .ref (ad k1)), (2, .int x2), (3, .int x3)] [] M := by
  intro x2 x3 hf H locs ls hI hl
  obtain ⟨hx, hb, hml, hr, hown, hts, hlk, hK, hap, hsx⟩ := id C
  unfold mX3_mostBendsFrom_b4 at hf
  refine lv_iload_n hx hb (dc tbX3_mostBendsFrom_k 4 rfl) rfl (lv_at hl 3 rfl) ?_
  refine lv_sipush (v := 256) hx hb (dc tbX3_mostBendsFrom_k 5 rfl) sp_256 ?_
  refine lv_icmp_ge (tgt := 35) hx hb (dc tbX3_mostBendsFrom_k 6 rfl) rfl (fun c1 => ?_) (fun c1 => ?_)
  · have hf := ite_t c1 hf
    refine lv_iload_n hx hb (dc tbX3_mostBendsFrom_k 19 rfl) rfl (lv_at hl 2 rfl) ?_
    refine lv_aload_n hx hb (dc tbX3_mostBendsFrom_k 20 rfl) rfl (lv_at hl 1 rfl) ?_
    refine gg1_13 hx hb hts hown hK hI hk1.1 q_t1_127 (dc tbX3_mostBendsFrom_k 21 rfl) ?_
    obtain ⟨r3, q2, hf⟩ := cap_s hf
    refine g_callSi hx hb hml hown hts hK hap hsx hI (tJ6_bitCount_0f7a4 l  q2 H.size) cs_J6_bitCount_0f7a4 q_t3_171 rfl rfl ⟨Nat.le_of_ble_eq_true rfl, Nat.le_of_ble_eq_true rfl⟩ rfl hl.1 rfl (Nat.le_of_ble_eq_true rfl) (dc tbX3_mostBendsFrom_k 22 rfl) ⟨Nat.le_of_ble_eq_true rfl, Nat.le_of_ble_eq_true rfl⟩ (fun H locs hI => ?_)
    refine lv_isub hx hb (dc tbX3_mostBendsFrom_k 23 rfl) ?_
    cases hf
    exact g_iret hx hb hr hlk hI (dc tbX3_mostBendsFrom_k 24 rfl)
  · have hf := ite_f c1 hf
    refine lv_aload_n hx hb (dc tbX3_mostBendsFrom_k 7 rfl) rfl (lv_at hl 0 rfl) ?_
    refine gg3_8 hx hb hts hown hK hI hk0.1 q_t2_16 (dc tbX3_mostBendsFrom_k 8 rfl) ?_
    refine lv_iload_n hx hb (dc tbX3_mostBendsFrom_k 9 rfl) rfl (lv_at hl 3 rfl) ?_
    obtain ⟨h5, hf⟩ := chk_s hf
    refine g_zald hx hb hK hI hk0.2.2.2.2.2.1 (okb_in h5) (dc tbX3_mostBendsFrom_k 10 rfl) ?_
    refine lv_if_eq (tgt := 29) hx hb (dc tbX3_mostBendsFrom_k 11 rfl) rfl (fun c6 => ?_) (fun c6 => ?_)
    · have hf := ite_t c6 hf
      exact tX3_mostBendsFrom_b29 C hk0 hk1 hih4 x2 x3 hf _ _ _ hI (lv_sub hl [0, 1, 2, 3] rfl)
    · have hf := ite_f c6 hf
      refine lv_iload_n hx hb (dc tbX3_mostBendsFrom_k 12 rfl) rfl (lv_at hl 2 rfl) ?_
      refine lv_iload_n hx hb (dc tbX3_mostBendsFrom_k 13 rfl) rfl (lv_at hl 3 rfl) ?_
      obtain ⟨r9, q8, hf⟩ := cap_s hf
      refine g_callSi hx hb hml hown hts hK hap hsx hI (tJ6_bitCount_0f7a4 l  q8 H.size) cs_J6_bitCount_0f7a4 q_t3_171 rfl rfl ⟨Nat.le_of_ble_eq_true rfl, Nat.le_of_ble_eq_true rfl⟩ rfl hl.1 rfl (Nat.le_of_ble_eq_true rfl) (dc tbX3_mostBendsFrom_k 14 rfl) ⟨Nat.le_of_ble_eq_true rfl, Nat.le_of_ble_eq_true rfl⟩ (fun H locs hI => ?_)
      refine va_mmax hx hb (hml.trans hl.1.symm) hown (hts _ q_t3_177) (hts _ q_t2_203) (hts _ q_t1_22) (hts _ q_t2_204) (Nat.le_of_ble_eq_true rfl) (Nat.le_of_ble_eq_true rfl) (Nat.le_of_ble_eq_true rfl) (Nat.le_of_ble_eq_true rfl) (dc tbX3_mostBendsFrom_k 15 rfl) ?_
      refine lv_et (show (if _ then _ else _) = (imax x2 r9) from rfl) ?_
      obtain ⟨x2_28, e11, hf⟩ := bnd_s hf
      refine lv_ei e11 ?_
      refine lv_istore_n (lv' := [(2, .int x2_28), (0, .ref (ad k0)), (1, .ref (ad k1)), (3, .int x3)]) hx hb (dc tbX3_mostBendsFrom_k 16 rfl) rfl hl (by decide) rfl (fun ls hl => ?_)
      exact tX3_mostBendsFrom_b29 C hk0 hk1 hih4 x2_28 x3 hf _ _ _ hI (lv_sub hl [1, 2, 0, 3] rfl)
def mX3_mostBendsFrom_l4 (k0 : Nat) (k1 : Nat) (M : Mem) : Nat → Int32 → Int32 → Option Int32
  | 0 => fun _ _ => none
  | n + 1 => mX3_mostBendsFrom_b4 k0 k1 M (mX3_mostBendsFrom_l4 k0 k1 M n)
theorem tX3_mostBendsFrom_l4 {p : Program} {l : Launch} {e : Env} {s : State} {m : MethodId} {args : Array Value} {below : List Frame} {meth : Method} {c : Code} {G : GT} {kd : Nat → Nat × Nat} {ad : Nat → Nat} (C : Cx p s m args meth c cX3_mostBendsFrom 4 (some .int) RX3 G kd ad) {k0 : Nat} {k1 : Nat} (hk0 : kPlanner kd k0) (hk1 : kPart kd k1) {M : Mem} {vo : Int32}   : ∀ (fuel : Nat) (x2 : Int32) (x3 : Int32), mX3_mostBendsFrom_l4 k0 k1 M fuel x2 x3 = some vo → At p l e (rmO 1 0 0) s m args below meth c 0 0 (MQ below (Qg G kd ad s.heap.size M (some (.int vo))) args s 0 0 (AS kd ad s.heap.size)) G kd ad 4 4 [(0, .ref (ad k0)), (1, .ref (ad k1)), (2, .int x2), (3, .int x3)] [] M := by
  intro fuel
  induction fuel with
  | zero => intro x2 x3 hf; cases hf
  | succ n IH => exact tX3_mostBendsFrom_b4 C hk0 hk1 IH
def mX3_mostBendsFrom (k0 : Nat) (k1 : Nat) (M : Mem) : Option Int32 := mX3_mostBendsFrom_l4 k0 k1 M 5000 (0 : Int32) (0 : Int32)
set_option maxHeartbeats 4000000 in
set_option maxRecDepth 100000 in
theorem tX3_mostBendsFrom (l : Launch) {G : GT} {kd : Nat → Nat × Nat} {ad : Nat → Nat} {k0 : Nat} {k1 : Nat} (hk0 : kPlanner kd k0) (hk1 : kPart kd k1) {M : Mem} {vo : Int32} (hf : mX3_mostBendsFrom k0 k1 M = some vo) (n : Nat) : Met l yX3_mostBendsFrom (Cond.code yX3_mostBendsFrom cX3_mostBendsFrom 4 (some .int) :: WA) (rmO 1 0 0) (Pg G kd ad n [.ref (ad k0), .ref (ad k1)] M) (Qg G kd ad n M (some (.int vo))) 0 0 (AS kd ad n) := by
  refine g_body (own := RX3) (by decide) rfl ?_ (Nat.le_of_ble_eq_true rfl)
  intro p e s m args below meth c C _ H locs ls hI hl
  obtain ⟨hx, hb, hml, hr, hown, hts, hlk, hK, hap, hsx⟩ := id C
  have hl : lv_has ls 4 [(0, .ref (ad k0)), (1, .ref (ad k1))] := hl
  unfold mX3_mostBendsFrom at hf
  refine lv_iconst (v := 0) hx hb (dc tbX3_mostBendsFrom_k 0 rfl) ic_0 ?_
  refine lv_istore_n (lv' := [(2, .int (0 : Int32)), (0, .ref (ad k0)), (1, .ref (ad k1))]) hx hb (dc tbX3_mostBendsFrom_k 1 rfl) rfl hl (by decide) rfl (fun ls hl => ?_)
  refine lv_iconst (v := 0) hx hb (dc tbX3_mostBendsFrom_k 2 rfl) ic_0 ?_
  refine lv_istore_n (lv' := [(3, .int (0 : Int32)), (2, .int (0 : Int32)), (0, .ref (ad k0)), (1, .ref (ad k1))]) hx hb (dc tbX3_mostBendsFrom_k 3 rfl) rfl hl (by decide) rfl (fun ls hl => ?_)
  exact tX3_mostBendsFrom_l4 C hk0 hk1 5000 (0 : Int32) (0 : Int32) hf _ _ _ hI (lv_sub hl [2, 3, 1, 0] rfl)
theorem cv_X3_mostBendsFrom : cvF RX3 yX3_mostBendsFrom cX3_mostBendsFrom 4 (some .int) 1 := ⟨q_t3_168, q_t3_169, q_t1_6, q_t3_170, by decide +kernel⟩
end
/-! part 24.c0 -/
section
def mX0_forgetAll (k0 : Nat) (M : Mem) : Option (Mem × Unit) := bnd (wr M k0 2 (0 : Int32)) (fun M1 => some (M1, ()))
set_option maxHeartbeats 4000000 in
set_option maxRecDepth 100000 in
theorem tX0_forgetAll (l : Launch) {G : GT} {kd : Nat → Nat × Nat} {ad : Nat → Nat} {k0 : Nat} (hk0 : kHist kd k0) {M : Mem} {MO : Mem} {vo : Unit} (hf : mX0_forgetAll k0 M = some (MO, vo)) (n : Nat) : Met l yX0_forgetAll (Cond.code yX0_forgetAll cX0_forgetAll 1 none :: WA) (rmO 0 0 0) (Pg G kd ad n [.ref (ad k0)] M) (Qg G kd ad n MO none) 0 0 (AS kd ad n) := by
  refine g_body (own := RX0) (by decide) rfl ?_ (Nat.le_of_ble_eq_true rfl)
  intro p e s m args below meth c C _ H locs ls hI hl
  obtain ⟨hx, hb, hml, hr, hown, hts, hlk, hK, hap, hsx⟩ := id C
  have hl : lv_has ls 1 [(0, .ref (ad k0))] := hl
  unfold mX0_forgetAll at hf
  refine lv_aload_n hx hb (dc tbX0_forgetAll_k 0 rfl) rfl (lv_at hl 0 rfl) ?_
  refine lv_iconst (v := 0) hx hb (dc tbX0_forgetAll_k 1 rfl) ic_0 ?_
  obtain ⟨M1, e2, hf⟩ := bnd_s hf
  refine gp0_2 hx hb hts hown hK hap hI hk0.1 q_t1_185 (dc tbX0_forgetAll_k 2 rfl) e2 (fun H locs hI => ?_)
  cases hf
  exact g_vret hx hb hr hlk hI (dc tbX0_forgetAll_k 3 rfl)
theorem cv_X0_forgetAll : cvF RX0 yX0_forgetAll cX0_forgetAll 1 none 0 := ⟨q_t6_4, q_t6_5, q_t1_4, q_t6_6, by decide +kernel⟩
def mX0_remember_b32 (k0 : Nat) (k1 : Nat) (M : Mem) : Option (Mem × Unit) := chk (okb (((rd M k0 1) + (rd M k0 2)) - ((rd M k0 1) + (rd M k0 2)) / (10 : Int32) * (10 : Int32)) 10) (cal (mX1_copyFrom ((k0 + 1) + 1 + 8 * ((((rd M k0 1) + (rd M k0 2)) - ((rd M k0 1) + (rd M k0 2)) / (10 : Int32) * (10 : Int32))).toNatClampNeg) k1 M) (fun M5 _ => bnd (wr M5 k0 2 ((rd M5 k0 2) + (1 : Int32))) (fun M6 => some (M6, ()))))
set_option maxHeartbeats 4000000 in
set_option maxRecDepth 100000 in
theorem tX0_remember_b32 {p : Program} {l : Launch} {e : Env} {s : State} {m : MethodId} {args : Array Value} {below : List Frame} {meth : Method} {c : Code} {G : GT} {kd : Nat → Nat × Nat} {ad : Nat → Nat} (C : Cx p s m args meth c cX0_remember 2 none RX0 G kd ad) {k0 : Nat} {k1 : Nat} (hk0 : kHist kd k0) (hk1 : kPart kd k1) {MO : Mem} {vo : Unit}   : ∀  (M : Mem), mX0_remember_b32 k0 k1 M = some (MO, vo) → At p l e (rmO 2 0 0) s m args below meth c 0 0 (MQ below (Qg G kd ad s.heap.size MO none) args s 0 0 (AS kd ad s.heap.size)) G kd ad 2 32 [(0, .ref (ad k0)), (1, .ref (ad k1))] [] M := by
  intro M hf H locs ls hI hl
  obtain ⟨hx, hb, hml, hr, hown, hts, hlk, hK, hap, hsx⟩ := id C
  unfold mX0_remember_b32 at hf
  refine lv_aload_n hx hb (dc tbX0_remember_k 18 rfl) rfl (lv_at hl 0 rfl) ?_
  refine gg0_0 hx hb hts hown hK hI hk0.1 q_t1_183 (dc tbX0_remember_k 19 rfl) ?_
  refine lv_aload_n hx hb (dc tbX0_remember_k 20 rfl) rfl (lv_at hl 0 rfl) ?_
  refine gg0_1 hx hb hts hown hK hI hk0.1 q_t1_184 (dc tbX0_remember_k 21 rfl) ?_
  refine lv_aload_n hx hb (dc tbX0_remember_k 22 rfl) rfl (lv_at hl 0 rfl) ?_
  refine gg0_2 hx hb hts hown hK hI hk0.1 q_t1_185 (dc tbX0_remember_k 23 rfl) ?_
  refine lv_iadd hx hb (dc tbX0_remember_k 24 rfl) ?_
  refine lv_bipush (v := 10) hx hb (dc tbX0_remember_k 25 rfl) bp_10 ?_
  refine lv_irem hx hb (dc tbX0_remember_k 26 rfl) (by decide) ?_
  obtain ⟨h2, hf⟩ := chk_s hf
  refine g_aald hx hb hK hI hk0.2.1 (okb_in h2) (dc tbX0_remember_k 27 rfl) ?_
  refine lv_aload_n hx hb (dc tbX0_remember_k 28 rfl) rfl (lv_at hl 1 rfl) ?_
  obtain ⟨M5, r4, q3, hf⟩ := cal_s hf
  refine g_callVv hx hb hml hown hts hK hap hsx hI (tX1_copyFrom l (hk0.2.2 _ (okb_lt h2)) hk1 q3 H.size) cv_X1_copyFrom q_t3_195 rfl rfl ⟨Nat.le_of_ble_eq_true rfl, Nat.le_of_ble_eq_true rfl⟩ (hk0.2.2 _ (okb_lt h2)).1 (by simp) rfl rfl rfl hl.1 rfl (Nat.le_of_ble_eq_true rfl) (dc tbX0_remember_k 29 rfl) ⟨Nat.le_of_ble_eq_true rfl, Nat.le_of_ble_eq_true rfl⟩ (fun H locs hI => ?_)
  refine lv_aload_n hx hb (dc tbX0_remember_k 30 rfl) rfl (lv_at hl 0 rfl) ?_
  refine lv_dup hx hb (dc tbX0_remember_k 31 rfl) rfl ?_
  refine gg0_2 hx hb hts hown hK hI hk0.1 q_t1_185 (dc tbX0_remember_k 32 rfl) ?_
  refine lv_iconst (v := 1) hx hb (dc tbX0_remember_k 33 rfl) ic_1 ?_
  refine lv_iadd hx hb (dc tbX0_remember_k 34 rfl) ?_
  obtain ⟨M6, e7, hf⟩ := bnd_s hf
  refine gp0_2 hx hb hts hown hK hap hI hk0.1 q_t1_185 (dc tbX0_remember_k 35 rfl) e7 (fun H locs hI => ?_)
  cases hf
  exact g_vret hx hb hr hlk hI (dc tbX0_remember_k 36 rfl)
def mX0_remember (k0 : Nat) (k1 : Nat) (M : Mem) : Option (Mem × Unit) := ite2 ((rd M k0 2) = (10 : Int32)) (bnd (wr M k0 1 (((rd M k0 1) + (1 : Int32)) - ((rd M k0 1) + (1 : Int32)) / (10 : Int32) * (10 : Int32))) (fun M8 => bnd (wr M8 k0 2 ((rd M8 k0 2) - (1 : Int32))) (fun M10 => mX0_remember_b32 k0 k1 M10))) (mX0_remember_b32 k0 k1 M)
set_option maxHeartbeats 4000000 in
set_option maxRecDepth 100000 in
theorem tX0_remember (l : Launch) {G : GT} {kd : Nat → Nat × Nat} {ad : Nat → Nat} {k0 : Nat} {k1 : Nat} (hk0 : kHist kd k0) (hk1 : kPart kd k1) {M : Mem} {MO : Mem} {vo : Unit} (hf : mX0_remember k0 k1 M = some (MO, vo)) (n : Nat) : Met l yX0_remember (Cond.code yX0_remember cX0_remember 2 none :: WA) (rmO 2 0 0) (Pg G kd ad n [.ref (ad k0), .ref (ad k1)] M) (Qg G kd ad n MO none) 0 0 (AS kd ad n) := by
  refine g_body (own := RX0) (by decide) rfl ?_ (Nat.le_of_ble_eq_true rfl)
  intro p e s m args below meth c C _ H locs ls hI hl
  obtain ⟨hx, hb, hml, hr, hown, hts, hlk, hK, hap, hsx⟩ := id C
  have hl : lv_has ls 2 [(0, .ref (ad k0)), (1, .ref (ad k1))] := hl
  unfold mX0_remember at hf
  refine lv_aload_n hx hb (dc tbX0_remember_k 0 rfl) rfl (lv_at hl 0 rfl) ?_
  refine gg0_2 hx hb hts hown hK hI hk0.1 q_t1_185 (dc tbX0_remember_k 1 rfl) ?_
  refine lv_bipush (v := 10) hx hb (dc tbX0_remember_k 2 rfl) bp_10 ?_
  refine lv_icmp_ne (tgt := 32) hx hb (dc tbX0_remember_k 3 rfl) rfl (fun c1 => ?_) (fun c1 => ?_)
  · have hf := ite_f c1 hf
    exact tX0_remember_b32 C hk0 hk1 M hf _ _ _ hI (lv_sub hl [0, 1] rfl)
  · have hf := ite_t c1 hf
    refine lv_aload_n hx hb (dc tbX0_remember_k 4 rfl) rfl (lv_at hl 0 rfl) ?_
    refine lv_aload_n hx hb (dc tbX0_remember_k 5 rfl) rfl (lv_at hl 0 rfl) ?_
    refine gg0_1 hx hb hts hown hK hI hk0.1 q_t1_184 (dc tbX0_remember_k 6 rfl) ?_
    refine lv_iconst (v := 1) hx hb (dc tbX0_remember_k 7 rfl) ic_1 ?_
    refine lv_iadd hx hb (dc tbX0_remember_k 8 rfl) ?_
    refine lv_bipush (v := 10) hx hb (dc tbX0_remember_k 9 rfl) bp_10 ?_
    refine lv_irem hx hb (dc tbX0_remember_k 10 rfl) (by decide) ?_
    obtain ⟨M8, e9, hf⟩ := bnd_s hf
    refine gp0_1 hx hb hts hown hK hap hI hk0.1 q_t1_184 (dc tbX0_remember_k 11 rfl) e9 (fun H locs hI => ?_)
    refine lv_aload_n hx hb (dc tbX0_remember_k 12 rfl) rfl (lv_at hl 0 rfl) ?_
    refine lv_dup hx hb (dc tbX0_remember_k 13 rfl) rfl ?_
    refine gg0_2 hx hb hts hown hK hI hk0.1 q_t1_185 (dc tbX0_remember_k 14 rfl) ?_
    refine lv_iconst (v := 1) hx hb (dc tbX0_remember_k 15 rfl) ic_1 ?_
    refine lv_isub hx hb (dc tbX0_remember_k 16 rfl) ?_
    obtain ⟨M10, e11, hf⟩ := bnd_s hf
    refine gp0_2 hx hb hts hown hK hap hI hk0.1 q_t1_185 (dc tbX0_remember_k 17 rfl) e11 (fun H locs hI => ?_)
    exact tX0_remember_b32 C hk0 hk1 M10 hf _ _ _ hI (lv_sub hl [0, 1] rfl)
theorem cv_X0_remember : cvF RX0 yX0_remember cX0_remember 2 none 1 := ⟨q_t3_192, q_t3_193, q_t1_4, q_t3_194, by decide +kernel⟩
def mX0_takeBack (k0 : Nat) (k1 : Nat) (M : Mem) : Option (Mem × Int32) := ite2 ((rd M k0 2) = 0) (some (M, (0 : Int32))) (bnd (wr M k0 2 ((rd M k0 2) - (1 : Int32))) (fun M2 => chk (okb (((rd M2 k0 1) + (rd M2 k0 2)) - ((rd M2 k0 1) + (rd M2 k0 2)) / (10 : Int32) * (10 : Int32)) 10) (cal (mX1_copyFrom k1 ((k0 + 1) + 1 + 8 * ((((rd M2 k0 1) + (rd M2 k0 2)) - ((rd M2 k0 1) + (rd M2 k0 2)) / (10 : Int32) * (10 : Int32))).toNatClampNeg) M2) (fun M7 _ => some (M7, (1 : Int32))))))
set_option maxHeartbeats 4000000 in
set_option maxRecDepth 100000 in
theorem tX0_takeBack (l : Launch) {G : GT} {kd : Nat → Nat × Nat} {ad : Nat → Nat} {k0 : Nat} {k1 : Nat} (hk0 : kHist kd k0) (hk1 : kPart kd k1) {M : Mem} {MO : Mem} {vo : Int32} (hf : mX0_takeBack k0 k1 M = some (MO, vo)) (n : Nat) : Met l yX0_takeBack (Cond.code yX0_takeBack cX0_takeBack 2 (some .boolean) :: WA) (rmO 2 0 0) (Pg G kd ad n [.ref (ad k0), .ref (ad k1)] M) (Qg G kd ad n MO (some (.int vo))) 0 0 (AS kd ad n) := by
  refine g_body (own := RX0) (by decide) rfl ?_ (Nat.le_of_ble_eq_true rfl)
  intro p e s m args below meth c C _ H locs ls hI hl
  obtain ⟨hx, hb, hml, hr, hown, hts, hlk, hK, hap, hsx⟩ := id C
  have hl : lv_has ls 2 [(0, .ref (ad k0)), (1, .ref (ad k1))] := hl
  unfold mX0_takeBack at hf
  refine lv_aload_n hx hb (dc tbX0_takeBack_k 0 rfl) rfl (lv_at hl 0 rfl) ?_
  refine gg0_2 hx hb hts hown hK hI hk0.1 q_t1_185 (dc tbX0_takeBack_k 1 rfl) ?_
  refine lv_if_ne (tgt := 9) hx hb (dc tbX0_takeBack_k 2 rfl) rfl (fun c1 => ?_) (fun c1 => ?_)
  · have hf := ite_f c1 hf
    refine lv_aload_n hx hb (dc tbX0_takeBack_k 5 rfl) rfl (lv_at hl 0 rfl) ?_
    refine lv_dup hx hb (dc tbX0_takeBack_k 6 rfl) rfl ?_
    refine gg0_2 hx hb hts hown hK hI hk0.1 q_t1_185 (dc tbX0_takeBack_k 7 rfl) ?_
    refine lv_iconst (v := 1) hx hb (dc tbX0_takeBack_k 8 rfl) ic_1 ?_
    refine lv_isub hx hb (dc tbX0_takeBack_k 9 rfl) ?_
    obtain ⟨M2, e3, hf⟩ := bnd_s hf
    refine gp0_2 hx hb hts hown hK hap hI hk0.1 q_t1_185 (dc tbX0_takeBack_k 10 rfl) e3 (fun H locs hI => ?_)
    refine lv_aload_n hx hb (dc tbX0_takeBack_k 11 rfl) rfl (lv_at hl 1 rfl) ?_
    refine lv_aload_n hx hb (dc tbX0_takeBack_k 12 rfl) rfl (lv_at hl 0 rfl) ?_
    refine gg0_0 hx hb hts hown hK hI hk0.1 q_t1_183 (dc tbX0_takeBack_k 13 rfl) ?_
    refine lv_aload_n hx hb (dc tbX0_takeBack_k 14 rfl) rfl (lv_at hl 0 rfl) ?_
    refine gg0_1 hx hb hts hown hK hI hk0.1 q_t1_184 (dc tbX0_takeBack_k 15 rfl) ?_
    refine lv_aload_n hx hb (dc tbX0_takeBack_k 16 rfl) rfl (lv_at hl 0 rfl) ?_
    refine gg0_2 hx hb hts hown hK hI hk0.1 q_t1_185 (dc tbX0_takeBack_k 17 rfl) ?_
    refine lv_iadd hx hb (dc tbX0_takeBack_k 18 rfl) ?_
    refine lv_bipush (v := 10) hx hb (dc tbX0_takeBack_k 19 rfl) bp_10 ?_
    refine lv_irem hx hb (dc tbX0_takeBack_k 20 rfl) (by decide) ?_
    obtain ⟨h4, hf⟩ := chk_s hf
    refine g_aald hx hb hK hI hk0.2.1 (okb_in h4) (dc tbX0_takeBack_k 21 rfl) ?_
    obtain ⟨M7, r6, q5, hf⟩ := cal_s hf
    refine g_callVv hx hb hml hown hts hK hap hsx hI (tX1_copyFrom l hk1 (hk0.2.2 _ (okb_lt h4)) q5 H.size) cv_X1_copyFrom q_t3_195 rfl rfl ⟨Nat.le_of_ble_eq_true rfl, Nat.le_of_ble_eq_true rfl⟩ hk1.1 (by simp) rfl rfl rfl hl.1 rfl (Nat.le_of_ble_eq_true rfl) (dc tbX0_takeBack_k 22 rfl) ⟨Nat.le_of_ble_eq_true rfl, Nat.le_of_ble_eq_true rfl⟩ (fun H locs hI => ?_)
    refine lv_iconst (v := 1) hx hb (dc tbX0_takeBack_k 23 rfl) ic_1 ?_
    cases hf
    exact g_zret hx hb hr hlk hI rfl (dc tbX0_takeBack_k 24 rfl)
  · have hf := ite_t c1 hf
    refine lv_iconst (v := 0) hx hb (dc tbX0_takeBack_k 3 rfl) ic_0 ?_
    cases hf
    exact g_zret hx hb hr hlk hI rfl (dc tbX0_takeBack_k 4 rfl)
theorem cv_X0_takeBack : cvF RX0 yX0_takeBack cX0_takeBack 2 (some .boolean) 1 := ⟨q_t3_202, q_t3_203, q_t1_4, q_t3_204, by decide +kernel⟩
end
/-! part 25.c5 -/
section
def mX5_isSpelled_b28 (k0 : Nat) (k1 : Nat) (M : Mem) (ih28 : Int32 → Int32 → Int32 → Option Int32) (x2 : Int32) (x3 : Int32) (x4 : Int32) : Option Int32 := ite2 (x3 ≤ x4) (some (1 : Int32)) (chk (okb (x2 + x4) 600) (cap (mJ0_charAt_5068e k0 x4 M) (fun r10 => ite2 ((rd M k1 ((x2 + x4)).toNatClampNeg) = r10) (bnd (x4 + (1 : Int32)) (fun x4_54 => ih28 x2 x3 x4_54)) (some (0 : Int32)))))
set_option maxHeartbeats 4000000 in
set_option maxRecDepth 100000 in
theorem tX5_isSpelled_b28 {p : Program} {l : Launch} {e : Env} {s : State} {m : MethodId} {args : Array Value} {below : List Frame} {meth : Method} {c : Code} {G : GT} {kd : Nat → Nat × Nat} {ad : Nat → Nat} (C : Cx p s m args meth c cX5_isSpelled 5 (some .boolean) RX5 G kd ad) {k0 : Nat} {k1 : Nat} (hk0 : k0 < 11) (hk1 : kd k1 = (11, 600)) {M : Mem} {vo : Int32} {ih28 : Int32 → Int32 → Int32 → Option Int32} (hih28 : ∀ (x2 : Int32) (x3 : Int32) (x4 : Int32), ih28 x2 x3 x4 = some vo → At p l e (rmO 4 0 0) s m args below meth c 0 0 (MQ below (Qg G kd ad s.heap.size M (some (.int vo))) args s 0 0 (AS kd ad s.heap.size)) G kd ad 5 28 [(0, .ref (G.2.2 k0)), (1, .ref (ad k1)), (2, .int x2), (3, .int x3), (4, .int x4)] [] M) : ∀ (x2 : Int32) (x3 : Int32) (x4 : Int32), mX5_isSpelled_b28 k0 k1 M ih28 x2 x3 x4 = some vo → At p l e (rmO 4 0 0) s m args below meth c 0 0 (MQ below (Qg G kd ad s.heap.size M (some (.int vo))) args s 0 0 (AS kd ad s.heap.size)) G kd ad 5 28 [(0, .ref (G.2.2 k0)), (1, .ref (ad k1)), (2, .int x2), (3, .int x3), (4, .int x4)] [] M := by
  intro x2 x3 x4 hf H locs ls hI hl
  obtain ⟨hx, hb, hml, hr, hown, hts, hlk, hK, hap, hsx⟩ := id C
  unfold mX5_isSpelled_b28 at hf
  refine lv_iload hx hb (dc tbX5_isSpelled_k 17 rfl) (lv_at hl 4 rfl) ?_
  refine lv_iload_n hx hb (dc tbX5_isSpelled_k 18 rfl) rfl (lv_at hl 3 rfl) ?_
  refine lv_icmp_ge (tgt := 60) hx hb (dc tbX5_isSpelled_k 19 rfl) rfl (fun c7 => ?_) (fun c7 => ?_)
  · have hf := ite_t c7 hf
    refine lv_iconst (v := 1) hx hb (dc tbX5_isSpelled_k 34 rfl) ic_1 ?_
    cases hf
    exact g_zret hx hb hr hlk hI rfl (dc tbX5_isSpelled_k 35 rfl)
  · have hf := ite_f c7 hf
    refine lv_aload_n hx hb (dc tbX5_isSpelled_k 20 rfl) rfl (lv_at hl 1 rfl) ?_
    refine lv_iload_n hx hb (dc tbX5_isSpelled_k 21 rfl) rfl (lv_at hl 2 rfl) ?_
    refine lv_iload hx hb (dc tbX5_isSpelled_k 22 rfl) (lv_at hl 4 rfl) ?_
    refine lv_iadd hx hb (dc tbX5_isSpelled_k 23 rfl) ?_
    obtain ⟨h8, hf⟩ := chk_s hf
    refine g_bald hx hb hK hI hk1 (okb_in h8) (dc tbX5_isSpelled_k 24 rfl) ?_
    refine lv_aload_n hx hb (dc tbX5_isSpelled_k 25 rfl) rfl (lv_at hl 0 rfl) ?_
    refine g_wtext hx hb hown hts hsx hI hk0 q_t10_37 (dc tbX5_isSpelled_k 26 rfl) ?_
    refine lv_iload hx hb (dc tbX5_isSpelled_k 27 rfl) (lv_at hl 4 rfl) ?_
    obtain ⟨r10, q9, hf⟩ := cap_s hf
    refine g_callTi hx hb hml hown hts hK hap hsx hI (tJ0_charAt_5068e l (Nat.lt_of_lt_of_le hk0 (by decide)) q9 H.size) cv_J0_charAt_5068e q_t5_150 rfl rfl ⟨Nat.le_of_ble_eq_true rfl, Nat.le_of_ble_eq_true rfl⟩ (Nat.lt_of_lt_of_le hk0 (by decide)) rfl hl.1 rfl (Nat.le_of_ble_eq_true rfl) (dc tbX5_isSpelled_k 28 rfl) ⟨Nat.le_of_ble_eq_true rfl, Nat.le_of_ble_eq_true rfl⟩ (fun H locs hI => ?_)
    refine lv_icmp_eq (tgt := 54) hx hb (dc tbX5_isSpelled_k 29 rfl) rfl (fun c12 => ?_) (fun c12 => ?_)
    · have hf := ite_t c12 hf
      obtain ⟨x4_54, e13, hf⟩ := bnd_s hf
      refine lv_iinc (v := x4_54) (lv' := [(4, .int x4_54), (0, .ref (G.2.2 k0)), (1, .ref (ad k1)), (2, .int x2), (3, .int x3)]) hx hb (dc tbX5_isSpelled_k 32 rfl) hl (k := 4) rfl (ii_e e13 ic_1) (by decide) rfl (fun ls hl => ?_)
      refine lv_goto (tgt := 28) hx hb (dc tbX5_isSpelled_k 33 rfl) rfl ?_
      exact hih28 x2 x3 x4_54 hf _ _ _ hI (lv_sub hl [1, 2, 3, 4, 0] rfl)
    · have hf := ite_f c12 hf
      refine lv_iconst (v := 0) hx hb (dc tbX5_isSpelled_k 30 rfl) ic_0 ?_
      cases hf
      exact g_zret hx hb hr hlk hI rfl (dc tbX5_isSpelled_k 31 rfl)
def mX5_isSpelled_l28 (k0 : Nat) (k1 : Nat) (M : Mem) : Nat → Int32 → Int32 → Int32 → Option Int32
  | 0 => fun _ _ _ => none
  | n + 1 => mX5_isSpelled_b28 k0 k1 M (mX5_isSpelled_l28 k0 k1 M n)
theorem tX5_isSpelled_l28 {p : Program} {l : Launch} {e : Env} {s : State} {m : MethodId} {args : Array Value} {below : List Frame} {meth : Method} {c : Code} {G : GT} {kd : Nat → Nat × Nat} {ad : Nat → Nat} (C : Cx p s m args meth c cX5_isSpelled 5 (some .boolean) RX5 G kd ad) {k0 : Nat} {k1 : Nat} (hk0 : k0 < 11) (hk1 : kd k1 = (11, 600)) {M : Mem} {vo : Int32}   : ∀ (fuel : Nat) (x2 : Int32) (x3 : Int32) (x4 : Int32), mX5_isSpelled_l28 k0 k1 M fuel x2 x3 x4 = some vo → At p l e (rmO 4 0 0) s m args below meth c 0 0 (MQ below (Qg G kd ad s.heap.size M (some (.int vo))) args s 0 0 (AS kd ad s.heap.size)) G kd ad 5 28 [(0, .ref (G.2.2 k0)), (1, .ref (ad k1)), (2, .int x2), (3, .int x3), (4, .int x4)] [] M := by
  intro fuel
  induction fuel with
  | zero => intro x2 x3 x4 hf; cases hf
  | succ n IH => exact tX5_isSpelled_b28 C hk0 hk1 IH
def mX5_isSpelled (k0 : Nat) (k1 : Nat) (x2 : Int32) (x3 : Int32) (M : Mem) : Option Int32 := cap (mJ0_length_8abf5 k0 M) (fun r2 => ite2 (x3 = r2) (ite2 (x2 < 0) (some (0 : Int32)) (ite2 ((x2 + x3) ≤ (600 : Int32)) (mX5_isSpelled_l28 k0 k1 M 5000 x2 x3 (0 : Int32)) (some (0 : Int32)))) (some (0 : Int32)))
set_option maxHeartbeats 4000000 in
set_option maxRecDepth 100000 in
theorem tX5_isSpelled (l : Launch) {G : GT} {kd : Nat → Nat × Nat} {ad : Nat → Nat} {k0 : Nat} {k1 : Nat} (hk0 : k0 < 11) (hk1 : kd k1 = (11, 600)) {x2 : Int32} {x3 : Int32} {M : Mem} {vo : Int32} (hf : mX5_isSpelled k0 k1 x2 x3 M = some vo) (n : Nat) : Met l yX5_isSpelled (Cond.code yX5_isSpelled cX5_isSpelled 5 (some .boolean) :: WA) (rmO 4 0 0) (Pg G kd ad n [.ref (G.2.2 k0), .ref (ad k1), .int x2, .int x3] M) (Qg G kd ad n M (some (.int vo))) 0 0 (AS kd ad n) := by
  refine g_body (own := RX5) (by decide) rfl ?_ (Nat.le_of_ble_eq_true rfl)
  intro p e s m args below meth c C _ H locs ls hI hl
  obtain ⟨hx, hb, hml, hr, hown, hts, hlk, hK, hap, hsx⟩ := id C
  have hl : lv_has ls 5 [(0, .ref (G.2.2 k0)), (1, .ref (ad k1)), (2, .int x2), (3, .int x3)] := hl
  unfold mX5_isSpelled at hf
  refine lv_iload_n hx hb (dc tbX5_isSpelled_k 0 rfl) rfl (lv_at hl 3 rfl) ?_
  refine lv_aload_n hx hb (dc tbX5_isSpelled_k 1 rfl) rfl (lv_at hl 0 rfl) ?_
  refine g_wtext hx hb hown hts hsx hI hk0 q_t10_37 (dc tbX5_isSpelled_k 2 rfl) ?_
  obtain ⟨r2, q1, hf⟩ := cap_s hf
  refine g_callTi hx hb hml hown hts hK hap hsx hI (tJ0_length_8abf5 l (Nat.lt_of_lt_of_le hk0 (by decide)) q1 H.size) cv_J0_length_8abf5 q_t5_149 rfl rfl ⟨Nat.le_of_ble_eq_true rfl, Nat.le_of_ble_eq_true rfl⟩ (Nat.lt_of_lt_of_le hk0 (by decide)) rfl hl.1 rfl (Nat.le_of_ble_eq_true rfl) (dc tbX5_isSpelled_k 3 rfl) ⟨Nat.le_of_ble_eq_true rfl, Nat.le_of_ble_eq_true rfl⟩ (fun H locs hI => ?_)
  refine lv_icmp_ne (tgt := 23) hx hb (dc tbX5_isSpelled_k 4 rfl) rfl (fun c4 => ?_) (fun c4 => ?_)
  · have hf := ite_f c4 hf
    refine lv_iconst (v := 0) hx hb (dc tbX5_isSpelled_k 13 rfl) ic_0 ?_
    cases hf
    exact g_zret hx hb hr hlk hI rfl (dc tbX5_isSpelled_k 14 rfl)
  · have hf := ite_t c4 hf
    refine lv_iload_n hx hb (dc tbX5_isSpelled_k 5 rfl) rfl (lv_at hl 2 rfl) ?_
    refine lv_if_lt (tgt := 23) hx hb (dc tbX5_isSpelled_k 6 rfl) rfl (fun c5 => ?_) (fun c5 => ?_)
    · have hf := ite_t c5 hf
      refine lv_iconst (v := 0) hx hb (dc tbX5_isSpelled_k 13 rfl) ic_0 ?_
      cases hf
      exact g_zret hx hb hr hlk hI rfl (dc tbX5_isSpelled_k 14 rfl)
    · have hf := ite_f c5 hf
      refine lv_iload_n hx hb (dc tbX5_isSpelled_k 7 rfl) rfl (lv_at hl 2 rfl) ?_
      refine lv_iload_n hx hb (dc tbX5_isSpelled_k 8 rfl) rfl (lv_at hl 3 rfl) ?_
      refine lv_iadd hx hb (dc tbX5_isSpelled_k 9 rfl) ?_
      refine lv_aload_n hx hb (dc tbX5_isSpelled_k 10 rfl) rfl (lv_at hl 1 rfl) ?_
      refine g_alenB hx hb hK hI hk1 (v := 600) (by decide) (dc tbX5_isSpelled_k 11 rfl) ?_
      refine lv_icmp_le (tgt := 25) hx hb (dc tbX5_isSpelled_k 12 rfl) rfl (fun c6 => ?_) (fun c6 => ?_)
      · have hf := ite_t c6 hf
        refine lv_iconst (v := 0) hx hb (dc tbX5_isSpelled_k 15 rfl) ic_0 ?_
        refine lv_istore (lv' := [(4, .int (0 : Int32)), (0, .ref (G.2.2 k0)), (1, .ref (ad k1)), (2, .int x2), (3, .int x3)]) hx hb (dc tbX5_isSpelled_k 16 rfl) hl (by decide) rfl (fun ls hl => ?_)
        exact tX5_isSpelled_l28 C hk0 hk1 5000 x2 x3 (0 : Int32) hf _ _ _ hI (lv_sub hl [1, 2, 3, 4, 0] rfl)
      · have hf := ite_f c6 hf
        refine lv_iconst (v := 0) hx hb (dc tbX5_isSpelled_k 13 rfl) ic_0 ?_
        cases hf
        exact g_zret hx hb hr hlk hI rfl (dc tbX5_isSpelled_k 14 rfl)
theorem cv_X5_isSpelled : cvF RX5 yX5_isSpelled cX5_isSpelled 5 (some .boolean) 3 := ⟨q_t5_146, q_s2_7, q_t1_17, q_t5_148, by decide +kernel⟩
def mX5_find_b2 (k0 : Nat) (M : Mem) (ih2 : Int32 → Int32 → Int32 → Option (Option Nat)) (x1 : Int32) (x2 : Int32) (x3 : Int32) : Option (Option Nat) := ite2 ((11 : Int32) ≤ x3) (some none) (chk (okb x3 11) (cap (mX5_isSpelled ((x3).toNatClampNeg) k0 x1 x2 M) (fun r4 => ite2 (r4 = 0) (bnd (x3 + (1 : Int32)) (fun x3_30 => ih2 x1 x2 x3_30)) (chk (okb x3 11) (some (some (x3).toNatClampNeg))))))
set_option maxHeartbeats 4000000 in
set_option maxRecDepth 100000 in
theorem tX5_find_b2 {p : Program} {l : Launch} {e : Env} {s : State} {m : MethodId} {args : Array Value} {below : List Frame} {meth : Method} {c : Code} {G : GT} {kd : Nat → Nat × Nat} {ad : Nat → Nat} (C : Cx p s m args meth c cX5_find 4 (some (.object "SheetFolder$Word")) RX5 G kd ad) {k0 : Nat} (hk0 : kd k0 = (11, 600)) {M : Mem} {vo : (Option Nat)} {ih2 : Int32 → Int32 → Int32 → Option (Option Nat)} (hih2 : ∀ (x1 : Int32) (x2 : Int32) (x3 : Int32), ih2 x1 x2 x3 = some vo → At p l e (rmO 5 0 0) s m args below meth c 0 0 (MQ below (Qg G kd ad s.heap.size M (some (va_re G.2.2 vo))) args s 0 0 (AS kd ad s.heap.size)) G kd ad 4 2 [(0, .ref (ad k0)), (1, .int x1), (2, .int x2), (3, .int x3)] [] M) : ∀ (x1 : Int32) (x2 : Int32) (x3 : Int32), mX5_find_b2 k0 M ih2 x1 x2 x3 = some vo → At p l e (rmO 5 0 0) s m args below meth c 0 0 (MQ below (Qg G kd ad s.heap.size M (some (va_re G.2.2 vo))) args s 0 0 (AS kd ad s.heap.size)) G kd ad 4 2 [(0, .ref (ad k0)), (1, .int x1), (2, .int x2), (3, .int x3)] [] M := by
  intro x1 x2 x3 hf H locs ls hI hl
  obtain ⟨hx, hb, hml, hr, hown, hts, hlk, hK, hap, hsx⟩ := id C
  unfold mX5_find_b2 at hf
  refine lv_iload_n hx hb (dc tbX5_find_k 2 rfl) rfl (lv_at hl 3 rfl) ?_
  refine g_gsall hx hb hown hts hsx hI q_t5_142 (dc tbX5_find_k 3 rfl) ?_
  refine g_allen hx hb hsx hI (dc tbX5_find_k 4 rfl) ?_
  refine lv_icmp_ge (tgt := 36) hx hb (dc tbX5_find_k 5 rfl) rfl (fun c1 => ?_) (fun c1 => ?_)
  · have hf := ite_t c1 hf
    refine lv_null hx hb (dc tbX5_find_k 20 rfl) ?_
    cases hf
    exact g_aret hx hb hr hlk hI (w := none) (dc tbX5_find_k 21 rfl)
  · have hf := ite_f c1 hf
    refine g_gsall hx hb hown hts hsx hI q_t5_142 (dc tbX5_find_k 6 rfl) ?_
    refine lv_iload_n hx hb (dc tbX5_find_k 7 rfl) rfl (lv_at hl 3 rfl) ?_
    obtain ⟨h2, hf⟩ := chk_s hf
    refine g_alld hx hb hsx hI (okb_in h2) (dc tbX5_find_k 8 rfl) ?_
    refine lv_aload_n hx hb (dc tbX5_find_k 9 rfl) rfl (lv_at hl 0 rfl) ?_
    refine lv_iload_n hx hb (dc tbX5_find_k 10 rfl) rfl (lv_at hl 1 rfl) ?_
    refine lv_iload_n hx hb (dc tbX5_find_k 11 rfl) rfl (lv_at hl 2 rfl) ?_
    obtain ⟨r4, q3, hf⟩ := cap_s hf
    refine g_callWi hx hb hml hown hts hK hap hsx hI (tX5_isSpelled l (okb_lt h2) hk0 q3 H.size) cv_X5_isSpelled q_t5_144 rfl rfl ⟨Nat.le_of_ble_eq_true rfl, Nat.le_of_ble_eq_true rfl⟩ (okb_lt h2) rfl hl.1 rfl (Nat.le_of_ble_eq_true rfl) (dc tbX5_find_k 12 rfl) ⟨Nat.le_of_ble_eq_true rfl, Nat.le_of_ble_eq_true rfl⟩ (fun H locs hI => ?_)
    refine lv_if_eq (tgt := 30) hx hb (dc tbX5_find_k 13 rfl) rfl (fun c6 => ?_) (fun c6 => ?_)
    · have hf := ite_t c6 hf
      obtain ⟨x3_30, e7, hf⟩ := bnd_s hf
      refine lv_iinc (v := x3_30) (lv' := [(3, .int x3_30), (0, .ref (ad k0)), (1, .int x1), (2, .int x2)]) hx hb (dc tbX5_find_k 18 rfl) hl (k := 3) rfl (ii_e e7 ic_1) (by decide) rfl (fun ls hl => ?_)
      refine lv_goto (tgt := 2) hx hb (dc tbX5_find_k 19 rfl) rfl ?_
      exact hih2 x1 x2 x3_30 hf _ _ _ hI (lv_sub hl [1, 2, 3, 0] rfl)
    · have hf := ite_f c6 hf
      refine g_gsall hx hb hown hts hsx hI q_t5_142 (dc tbX5_find_k 14 rfl) ?_
      refine lv_iload_n hx hb (dc tbX5_find_k 15 rfl) rfl (lv_at hl 3 rfl) ?_
      obtain ⟨h8, hf⟩ := chk_s hf
      refine g_alld hx hb hsx hI (okb_in h8) (dc tbX5_find_k 16 rfl) ?_
      cases hf
      exact g_aret hx hb hr hlk hI (w := some (x3).toNatClampNeg) (dc tbX5_find_k 17 rfl)
def mX5_find_l2 (k0 : Nat) (M : Mem) : Nat → Int32 → Int32 → Int32 → Option (Option Nat)
  | 0 => fun _ _ _ => none
  | n + 1 => mX5_find_b2 k0 M (mX5_find_l2 k0 M n)
theorem tX5_find_l2 {p : Program} {l : Launch} {e : Env} {s : State} {m : MethodId} {args : Array Value} {below : List Frame} {meth : Method} {c : Code} {G : GT} {kd : Nat → Nat × Nat} {ad : Nat → Nat} (C : Cx p s m args meth c cX5_find 4 (some (.object "SheetFolder$Word")) RX5 G kd ad) {k0 : Nat} (hk0 : kd k0 = (11, 600)) {M : Mem} {vo : (Option Nat)}   : ∀ (fuel : Nat) (x1 : Int32) (x2 : Int32) (x3 : Int32), mX5_find_l2 k0 M fuel x1 x2 x3 = some vo → At p l e (rmO 5 0 0) s m args below meth c 0 0 (MQ below (Qg G kd ad s.heap.size M (some (va_re G.2.2 vo))) args s 0 0 (AS kd ad s.heap.size)) G kd ad 4 2 [(0, .ref (ad k0)), (1, .int x1), (2, .int x2), (3, .int x3)] [] M := by
  intro fuel
  induction fuel with
  | zero => intro x1 x2 x3 hf; cases hf
  | succ n IH => exact tX5_find_b2 C hk0 IH
def mX5_find (k0 : Nat) (x1 : Int32) (x2 : Int32) (M : Mem) : Option (Option Nat) := mX5_find_l2 k0 M 5000 x1 x2 (0 : Int32)
set_option maxHeartbeats 4000000 in
set_option maxRecDepth 100000 in
theorem tX5_find (l : Launch) {G : GT} {kd : Nat → Nat × Nat} {ad : Nat → Nat} {k0 : Nat} (hk0 : kd k0 = (11, 600)) {x1 : Int32} {x2 : Int32} {M : Mem} {vo : (Option Nat)} (hf : mX5_find k0 x1 x2 M = some vo) (n : Nat) : Met l yX5_find (Cond.code yX5_find cX5_find 4 (some (.object "SheetFolder$Word")) :: WA) (rmO 5 0 0) (Pg G kd ad n [.ref (ad k0), .int x1, .int x2] M) (Qg G kd ad n M (some (va_re G.2.2 vo))) 0 0 (AS kd ad n) := by
  refine g_body (own := RX5) (by decide) rfl ?_ (Nat.le_of_ble_eq_true rfl)
  intro p e s m args below meth c C _ H locs ls hI hl
  obtain ⟨hx, hb, hml, hr, hown, hts, hlk, hK, hap, hsx⟩ := id C
  have hl : lv_has ls 4 [(0, .ref (ad k0)), (1, .int x1), (2, .int x2)] := hl
  unfold mX5_find at hf
  refine lv_iconst (v := 0) hx hb (dc tbX5_find_k 0 rfl) ic_0 ?_
  refine lv_istore_n (lv' := [(3, .int (0 : Int32)), (0, .ref (ad k0)), (1, .int x1), (2, .int x2)]) hx hb (dc tbX5_find_k 1 rfl) rfl hl (by decide) rfl (fun ls hl => ?_)
  exact tX5_find_l2 C hk0 5000 x1 x2 (0 : Int32) hf _ _ _ hI (lv_sub hl [1, 2, 3, 0] rfl)
theorem cs_X5_find : csF yX5_find cX5_find 4 (some (.object "SheetFolder$Word")) 3 := ⟨q_t5_140, q_t1_17, q_t5_141, by decide +kernel⟩
def mX5_ofTool (x0 : Int32) (M : Mem) : Option (Option Nat) := ite2 (x0 = (0 : Int32)) (some (some 5)) (ite2 (x0 = (1 : Int32)) (some (some 6)) (ite2 (x0 = (2 : Int32)) (some (some 7)) (ite2 (x0 = (3 : Int32)) (some (some 8)) (ite2 (x0 = (4 : Int32)) (some (some 9)) (some none)))))
set_option maxHeartbeats 4000000 in
set_option maxRecDepth 100000 in
theorem tX5_ofTool (l : Launch) {G : GT} {kd : Nat → Nat × Nat} {ad : Nat → Nat}  {x0 : Int32} {M : Mem} {vo : (Option Nat)} (hf : mX5_ofTool  x0 M = some vo) (n : Nat) : Met l yX5_ofTool (Cond.code yX5_ofTool cX5_ofTool 1 (some (.object "SheetFolder$Word")) :: WA) (rmO 0 0 0) (Pg G kd ad n [.int x0] M) (Qg G kd ad n M (some (va_re G.2.2 vo))) 0 0 (AS kd ad n) := by
  refine g_body (own := RX5) (by decide) rfl ?_ (Nat.le_of_ble_eq_true rfl)
  intro p e s m args below meth c C _ H locs ls hI hl
  obtain ⟨hx, hb, hml, hr, hown, hts, hlk, hK, hap, hsx⟩ := id C
  have hl : lv_has ls 1 [(0, .int x0)] := hl
  unfold mX5_ofTool at hf
  refine lv_iload_n hx hb (dc tbX5_ofTool_k 0 rfl) rfl (lv_at hl 0 rfl) ?_
  refine by_c (c := x0 = (0 : Int32)) (fun c1 => ?_) (fun c1 => ?_)
  · have hf := ite_t c1 hf
    refine lv_et c1 ?_
    refine lv_tableIn (tgt := 36) hx hb dX5_ofTool_1 (by decide) (by decide) rfl rfl ?_
    refine g_gsW 5 (by decide) hx hb hown hts hsx hI q_t5_219 (dc tbX5_ofTool_k 1 rfl) ?_
    cases hf
    exact g_aret hx hb hr hlk hI (w := some 5) (dc tbX5_ofTool_k 2 rfl)
  · have hf := ite_f c1 hf
    refine by_c (c := x0 = (1 : Int32)) (fun c2 => ?_) (fun c2 => ?_)
    · have hf := ite_t c2 hf
      refine lv_et c2 ?_
      refine lv_tableIn (tgt := 40) hx hb dX5_ofTool_1 (by decide) (by decide) rfl rfl ?_
      refine g_gsW 6 (by decide) hx hb hown hts hsx hI q_t5_221 (dc tbX5_ofTool_k 3 rfl) ?_
      cases hf
      exact g_aret hx hb hr hlk hI (w := some 6) (dc tbX5_ofTool_k 4 rfl)
    · have hf := ite_f c2 hf
      refine by_c (c := x0 = (2 : Int32)) (fun c3 => ?_) (fun c3 => ?_)
      · have hf := ite_t c3 hf
        refine lv_et c3 ?_
        refine lv_tableIn (tgt := 44) hx hb dX5_ofTool_1 (by decide) (by decide) rfl rfl ?_
        refine g_gsW 7 (by decide) hx hb hown hts hsx hI q_t5_223 (dc tbX5_ofTool_k 5 rfl) ?_
        cases hf
        exact g_aret hx hb hr hlk hI (w := some 7) (dc tbX5_ofTool_k 6 rfl)
      · have hf := ite_f c3 hf
        refine by_c (c := x0 = (3 : Int32)) (fun c4 => ?_) (fun c4 => ?_)
        · have hf := ite_t c4 hf
          refine lv_et c4 ?_
          refine lv_tableIn (tgt := 48) hx hb dX5_ofTool_1 (by decide) (by decide) rfl rfl ?_
          refine g_gsW 8 (by decide) hx hb hown hts hsx hI q_t5_202 (dc tbX5_ofTool_k 7 rfl) ?_
          cases hf
          exact g_aret hx hb hr hlk hI (w := some 8) (dc tbX5_ofTool_k 8 rfl)
        · have hf := ite_f c4 hf
          refine by_c (c := x0 = (4 : Int32)) (fun c5 => ?_) (fun c5 => ?_)
          · have hf := ite_t c5 hf
            refine lv_et c5 ?_
            refine lv_tableIn (tgt := 52) hx hb dX5_ofTool_1 (by decide) (by decide) rfl rfl ?_
            refine g_gsW 9 (by decide) hx hb hown hts hsx hI q_t5_225 (dc tbX5_ofTool_k 9 rfl) ?_
            cases hf
            exact g_aret hx hb hr hlk hI (w := some 9) (dc tbX5_ofTool_k 10 rfl)
          · have hf := ite_f c5 hf
            refine lv_tableOut (tgt := 56) hx hb dX5_ofTool_1 (by have := sw_ne (k := 0) (z := 0) c1 rfl; have := sw_ne (k := 1) (z := 1) c2 rfl; have := sw_ne (k := 2) (z := 2) c3 rfl; have := sw_ne (k := 3) (z := 3) c4 rfl; have := sw_ne (k := 4) (z := 4) c5 rfl; omega) rfl ?_
            refine lv_null hx hb (dc tbX5_ofTool_k 11 rfl) ?_
            cases hf
            exact g_aret hx hb hr hlk hI (w := none) (dc tbX5_ofTool_k 12 rfl)
theorem cs_X5_ofTool : csF yX5_ofTool cX5_ofTool 1 (some (.object "SheetFolder$Word")) 1 := ⟨q_t5_217, q_t1_17, q_t5_218, by decide +kernel⟩
def mX5_toolNumber_b2 (k0 : Nat) (M : Mem) (ih2 : Int32 → Option Int32) (x1 : Int32) : Option Int32 := ite2 ((5 : Int32) ≤ x1) (some (-1 : Int32)) (cap (mX5_ofTool x1 M) (fun r3 => opt r3 (bnd (x1 + (1 : Int32)) (fun x1_17 => ih2 x1_17)) (fun w5 => chk (decide (w5 < 11)) (ite2 (w5 = k0) (some x1) (bnd (x1 + (1 : Int32)) (fun x1_17 => ih2 x1_17))))))
set_option maxHeartbeats 4000000 in
set_option maxRecDepth 100000 in
theorem tX5_toolNumber_b2 {p : Program} {l : Launch} {e : Env} {s : State} {m : MethodId} {args : Array Value} {below : List Frame} {meth : Method} {c : Code} {G : GT} {kd : Nat → Nat × Nat} {ad : Nat → Nat} (C : Cx p s m args meth c cX5_toolNumber 2 (some .int) RX5 G kd ad) {k0 : Nat} (hk0 : k0 < 11) {M : Mem} {vo : Int32} {ih2 : Int32 → Option Int32} (hih2 : ∀ (x1 : Int32), ih2 x1 = some vo → At p l e (rmO 1 0 0) s m args below meth c 0 0 (MQ below (Qg G kd ad s.heap.size M (some (.int vo))) args s 0 0 (AS kd ad s.heap.size)) G kd ad 2 2 [(0, .ref (G.2.2 k0)), (1, .int x1)] [] M) : ∀ (x1 : Int32), mX5_toolNumber_b2 k0 M ih2 x1 = some vo → At p l e (rmO 1 0 0) s m args below meth c 0 0 (MQ below (Qg G kd ad s.heap.size M (some (.int vo))) args s 0 0 (AS kd ad s.heap.size)) G kd ad 2 2 [(0, .ref (G.2.2 k0)), (1, .int x1)] [] M := by
  intro x1 hf H locs ls hI hl
  obtain ⟨hx, hb, hml, hr, hown, hts, hlk, hK, hap, hsx⟩ := id C
  unfold mX5_toolNumber_b2 at hf
  refine lv_iload_n hx hb (dc tbX5_toolNumber_k 2 rfl) rfl (lv_at hl 1 rfl) ?_
  refine lv_iconst (v := 5) hx hb (dc tbX5_toolNumber_k 3 rfl) ic_5 ?_
  refine lv_icmp_ge (tgt := 23) hx hb (dc tbX5_toolNumber_k 4 rfl) rfl (fun c1 => ?_) (fun c1 => ?_)
  · have hf := ite_t c1 hf
    refine lv_iconst (v := -1) hx hb (dc tbX5_toolNumber_k 13 rfl) ic_m1 ?_
    cases hf
    exact g_iret hx hb hr hlk hI (dc tbX5_toolNumber_k 14 rfl)
  · have hf := ite_f c1 hf
    refine lv_iload_n hx hb (dc tbX5_toolNumber_k 5 rfl) rfl (lv_at hl 1 rfl) ?_
    obtain ⟨r3, q2, hf⟩ := cap_s hf
    refine g_callSr hx hb hml hown hts hK hap hsx hI (tX5_ofTool l  q2 H.size) cs_X5_ofTool q_t5_216 rfl rfl ⟨Nat.le_of_ble_eq_true rfl, Nat.le_of_ble_eq_true rfl⟩ rfl hl.1 rfl (Nat.le_of_ble_eq_true rfl) (dc tbX5_toolNumber_k 6 rfl) ⟨Nat.le_of_ble_eq_true rfl, Nat.le_of_ble_eq_true rfl⟩ (fun H locs hI => ?_)
    rcases opt_s hf with ⟨e10, g11⟩ | ⟨w5, e10, g11⟩
    · subst e10
      have hf := g11
      refine lv_wn ?_
      refine lv_aload_n hx hb (dc tbX5_toolNumber_k 7 rfl) rfl (lv_at hl 0 rfl) ?_
      refine g_wneN (tgt := 17) hx hb (dc tbX5_toolNumber_k 8 rfl) rfl ?_
      obtain ⟨x1_17, e7, hf⟩ := bnd_s hf
      refine lv_iinc (v := x1_17) (lv' := [(1, .int x1_17), (0, .ref (G.2.2 k0))]) hx hb (dc tbX5_toolNumber_k 11 rfl) hl (k := 1) rfl (ii_e e7 ic_1) (by decide) rfl (fun ls hl => ?_)
      refine lv_goto (tgt := 2) hx hb (dc tbX5_toolNumber_k 12 rfl) rfl ?_
      exact hih2 x1_17 hf _ _ _ hI (lv_sub hl [1, 0] rfl)
    · subst e10
      obtain ⟨h6, hf⟩ := chk_s g11
      refine lv_ws ?_
      refine lv_aload_n hx hb (dc tbX5_toolNumber_k 7 rfl) rfl (lv_at hl 0 rfl) ?_
      refine g_wne (tgt := 17) hx hb hsx (of_decide_eq_true h6) hk0 (dc tbX5_toolNumber_k 8 rfl) rfl (fun c8 => ?_) (fun c8 => ?_)
      · have hf := ite_f c8 hf
        obtain ⟨x1_17, e9, hf⟩ := bnd_s hf
        refine lv_iinc (v := x1_17) (lv' := [(1, .int x1_17), (0, .ref (G.2.2 k0))]) hx hb (dc tbX5_toolNumber_k 11 rfl) hl (k := 1) rfl (ii_e e9 ic_1) (by decide) rfl (fun ls hl => ?_)
        refine lv_goto (tgt := 2) hx hb (dc tbX5_toolNumber_k 12 rfl) rfl ?_
        exact hih2 x1_17 hf _ _ _ hI (lv_sub hl [1, 0] rfl)
      · have hf := ite_t c8 hf
        refine lv_iload_n hx hb (dc tbX5_toolNumber_k 9 rfl) rfl (lv_at hl 1 rfl) ?_
        cases hf
        exact g_iret hx hb hr hlk hI (dc tbX5_toolNumber_k 10 rfl)
def mX5_toolNumber_l2 (k0 : Nat) (M : Mem) : Nat → Int32 → Option Int32
  | 0 => fun _ => none
  | n + 1 => mX5_toolNumber_b2 k0 M (mX5_toolNumber_l2 k0 M n)
theorem tX5_toolNumber_l2 {p : Program} {l : Launch} {e : Env} {s : State} {m : MethodId} {args : Array Value} {below : List Frame} {meth : Method} {c : Code} {G : GT} {kd : Nat → Nat × Nat} {ad : Nat → Nat} (C : Cx p s m args meth c cX5_toolNumber 2 (some .int) RX5 G kd ad) {k0 : Nat} (hk0 : k0 < 11) {M : Mem} {vo : Int32}   : ∀ (fuel : Nat) (x1 : Int32), mX5_toolNumber_l2 k0 M fuel x1 = some vo → At p l e (rmO 1 0 0) s m args below meth c 0 0 (MQ below (Qg G kd ad s.heap.size M (some (.int vo))) args s 0 0 (AS kd ad s.heap.size)) G kd ad 2 2 [(0, .ref (G.2.2 k0)), (1, .int x1)] [] M := by
  intro fuel
  induction fuel with
  | zero => intro x1 hf; cases hf
  | succ n IH => exact tX5_toolNumber_b2 C hk0 IH
def mX5_toolNumber (k0 : Nat) (M : Mem) : Option Int32 := mX5_toolNumber_l2 k0 M 5000 (0 : Int32)
set_option maxHeartbeats 4000000 in
set_option maxRecDepth 100000 in
theorem tX5_toolNumber (l : Launch) {G : GT} {kd : Nat → Nat × Nat} {ad : Nat → Nat} {k0 : Nat} (hk0 : k0 < 11) {M : Mem} {vo : Int32} (hf : mX5_toolNumber k0 M = some vo) (n : Nat) : Met l yX5_toolNumber (Cond.code yX5_toolNumber cX5_toolNumber 2 (some .int) :: WA) (rmO 1 0 0) (Pg G kd ad n [.ref (G.2.2 k0)] M) (Qg G kd ad n M (some (.int vo))) 0 0 (AS kd ad n) := by
  refine g_body (own := RX5) (by decide) rfl ?_ (Nat.le_of_ble_eq_true rfl)
  intro p e s m args below meth c C _ H locs ls hI hl
  obtain ⟨hx, hb, hml, hr, hown, hts, hlk, hK, hap, hsx⟩ := id C
  have hl : lv_has ls 2 [(0, .ref (G.2.2 k0))] := hl
  unfold mX5_toolNumber at hf
  refine lv_iconst (v := 0) hx hb (dc tbX5_toolNumber_k 0 rfl) ic_0 ?_
  refine lv_istore_n (lv' := [(1, .int (0 : Int32)), (0, .ref (G.2.2 k0))]) hx hb (dc tbX5_toolNumber_k 1 rfl) rfl hl (by decide) rfl (fun ls hl => ?_)
  exact tX5_toolNumber_l2 C hk0 5000 (0 : Int32) hf _ _ _ hI (lv_sub hl [1, 0] rfl)
theorem cv_X5_toolNumber : cvF RX5 yX5_toolNumber cX5_toolNumber 2 (some .int) 0 := ⟨q_t5_213, q_t5_214, q_t1_17, q_t5_215, by decide +kernel⟩
def mX5_numberCount (k0 : Nat) (M : Mem) : Option Int32 := ite2 ((wF3.getD k0 0) ≤ 0) (ite2 ((wF2.getD k0 0) ≤ 0) (some (1 : Int32)) (some (2 : Int32))) (some (3 : Int32))
set_option maxHeartbeats 4000000 in
set_option maxRecDepth 100000 in
theorem tX5_numberCount (l : Launch) {G : GT} {kd : Nat → Nat × Nat} {ad : Nat → Nat} {k0 : Nat} (hk0 : k0 < 11) {M : Mem} {vo : Int32} (hf : mX5_numberCount k0 M = some vo) (n : Nat) : Met l yX5_numberCount (Cond.code yX5_numberCount cX5_numberCount 1 (some .int) :: WA) (rmO 0 0 0) (Pg G kd ad n [.ref (G.2.2 k0)] M) (Qg G kd ad n M (some (.int vo))) 0 0 (AS kd ad n) := by
  refine g_body (own := RX5) (by decide) rfl ?_ (Nat.le_of_ble_eq_true rfl)
  intro p e s m args below meth c C _ H locs ls hI hl
  obtain ⟨hx, hb, hml, hr, hown, hts, hlk, hK, hap, hsx⟩ := id C
  have hl : lv_has ls 1 [(0, .ref (G.2.2 k0))] := hl
  unfold mX5_numberCount at hf
  refine lv_aload_n hx hb (dc tbX5_numberCount_k 0 rfl) rfl (lv_at hl 0 rfl) ?_
  refine g_wf3 hx hb hown hts hsx hI hk0 q_t10_38 (dc tbX5_numberCount_k 1 rfl) ?_
  refine lv_if_le (tgt := 11) hx hb (dc tbX5_numberCount_k 2 rfl) rfl (fun c1 => ?_) (fun c1 => ?_)
  · have hf := ite_t c1 hf
    refine lv_aload_n hx hb (dc tbX5_numberCount_k 5 rfl) rfl (lv_at hl 0 rfl) ?_
    refine g_wf2 hx hb hown hts hsx hI hk0 q_t10_39 (dc tbX5_numberCount_k 6 rfl) ?_
    refine lv_if_le (tgt := 22) hx hb (dc tbX5_numberCount_k 7 rfl) rfl (fun c2 => ?_) (fun c2 => ?_)
    · have hf := ite_t c2 hf
      refine lv_iconst (v := 1) hx hb (dc tbX5_numberCount_k 10 rfl) ic_1 ?_
      cases hf
      exact g_iret hx hb hr hlk hI (dc tbX5_numberCount_k 11 rfl)
    · have hf := ite_f c2 hf
      refine lv_iconst (v := 2) hx hb (dc tbX5_numberCount_k 8 rfl) ic_2 ?_
      refine lv_goto (tgt := 23) hx hb (dc tbX5_numberCount_k 9 rfl) rfl ?_
      cases hf
      exact g_iret hx hb hr hlk hI (dc tbX5_numberCount_k 11 rfl)
  · have hf := ite_f c1 hf
    refine lv_iconst (v := 3) hx hb (dc tbX5_numberCount_k 3 rfl) ic_3 ?_
    refine lv_goto (tgt := 23) hx hb (dc tbX5_numberCount_k 4 rfl) rfl ?_
    cases hf
    exact g_iret hx hb hr hlk hI (dc tbX5_numberCount_k 11 rfl)
theorem cv_X5_numberCount : cvF RX5 yX5_numberCount cX5_numberCount 1 (some .int) 0 := ⟨q_t5_186, q_t5_187, q_t1_17, q_t5_188, by decide +kernel⟩
def mX5_allows (k0 : Nat) (x1 : Int32) (x2 : Int32) (M : Mem) : Option Int32 := ite2 (x1 = (0 : Int32)) (ite2 (x2 < (wF0.getD k0 0)) (some (0 : Int32)) (ite2 ((wF1.getD k0 0) < x2) (some (0 : Int32)) (some (1 : Int32)))) (ite2 (x1 = (1 : Int32)) (ite2 (x2 < 0) (some (0 : Int32)) (ite2 ((wF2.getD k0 0) < x2) (some (0 : Int32)) (some (1 : Int32)))) (ite2 (x2 < 0) (some (0 : Int32)) (ite2 ((wF3.getD k0 0) < x2) (some (0 : Int32)) (some (1 : Int32)))))
set_option maxHeartbeats 4000000 in
set_option maxRecDepth 100000 in
theorem tX5_allows (l : Launch) {G : GT} {kd : Nat → Nat × Nat} {ad : Nat → Nat} {k0 : Nat} (hk0 : k0 < 11) {x1 : Int32} {x2 : Int32} {M : Mem} {vo : Int32} (hf : mX5_allows k0 x1 x2 M = some vo) (n : Nat) : Met l yX5_allows (Cond.code yX5_allows cX5_allows 3 (some .boolean) :: WA) (rmO 0 0 0) (Pg G kd ad n [.ref (G.2.2 k0), .int x1, .int x2] M) (Qg G kd ad n M (some (.int vo))) 0 0 (AS kd ad n) := by
  refine g_body (own := RX5) (by decide) rfl ?_ (Nat.le_of_ble_eq_true rfl)
  intro p e s m args below meth c C _ H locs ls hI hl
  obtain ⟨hx, hb, hml, hr, hown, hts, hlk, hK, hap, hsx⟩ := id C
  have hl : lv_has ls 3 [(0, .ref (G.2.2 k0)), (1, .int x1), (2, .int x2)] := hl
  unfold mX5_allows at hf
  refine lv_iload_n hx hb (dc tbX5_allows_k 0 rfl) rfl (lv_at hl 1 rfl) ?_
  refine by_c (c := x1 = (0 : Int32)) (fun c1 => ?_) (fun c1 => ?_)
  · have hf := ite_t c1 hf
    refine lv_et c1 ?_
    refine lv_lookup (tgt := 28) hx hb dX5_allows_1 (by decide) rfl rfl ?_
    refine lv_iload_n hx hb (dc tbX5_allows_k 1 rfl) rfl (lv_at hl 2 rfl) ?_
    refine lv_aload_n hx hb (dc tbX5_allows_k 2 rfl) rfl (lv_at hl 0 rfl) ?_
    refine g_wf0 hx hb hown hts hsx hI hk0 q_t10_40 (dc tbX5_allows_k 3 rfl) ?_
    refine lv_icmp_lt (tgt := 48) hx hb (dc tbX5_allows_k 4 rfl) rfl (fun c2 => ?_) (fun c2 => ?_)
    · have hf := ite_t c2 hf
      refine lv_iconst (v := 0) hx hb (dc tbX5_allows_k 11 rfl) ic_0 ?_
      cases hf
      exact g_zret hx hb hr hlk hI rfl (dc tbX5_allows_k 12 rfl)
    · have hf := ite_f c2 hf
      refine lv_iload_n hx hb (dc tbX5_allows_k 5 rfl) rfl (lv_at hl 2 rfl) ?_
      refine lv_aload_n hx hb (dc tbX5_allows_k 6 rfl) rfl (lv_at hl 0 rfl) ?_
      refine g_wf1 hx hb hown hts hsx hI hk0 q_t10_41 (dc tbX5_allows_k 7 rfl) ?_
      refine lv_icmp_gt (tgt := 48) hx hb (dc tbX5_allows_k 8 rfl) rfl (fun c3 => ?_) (fun c3 => ?_)
      · have hf := ite_t c3 hf
        refine lv_iconst (v := 0) hx hb (dc tbX5_allows_k 11 rfl) ic_0 ?_
        cases hf
        exact g_zret hx hb hr hlk hI rfl (dc tbX5_allows_k 12 rfl)
      · have hf := ite_f c3 hf
        refine lv_iconst (v := 1) hx hb (dc tbX5_allows_k 9 rfl) ic_1 ?_
        refine lv_goto (tgt := 49) hx hb (dc tbX5_allows_k 10 rfl) rfl ?_
        cases hf
        exact g_zret hx hb hr hlk hI rfl (dc tbX5_allows_k 12 rfl)
  · have hf := ite_f c1 hf
    refine by_c (c := x1 = (1 : Int32)) (fun c4 => ?_) (fun c4 => ?_)
    · have hf := ite_t c4 hf
      refine lv_et c4 ?_
      refine lv_lookup (tgt := 50) hx hb dX5_allows_1 (by decide) rfl rfl ?_
      refine lv_iload_n hx hb (dc tbX5_allows_k 13 rfl) rfl (lv_at hl 2 rfl) ?_
      refine lv_if_lt (tgt := 66) hx hb (dc tbX5_allows_k 14 rfl) rfl (fun c5 => ?_) (fun c5 => ?_)
      · have hf := ite_t c5 hf
        refine lv_iconst (v := 0) hx hb (dc tbX5_allows_k 21 rfl) ic_0 ?_
        cases hf
        exact g_zret hx hb hr hlk hI rfl (dc tbX5_allows_k 22 rfl)
      · have hf := ite_f c5 hf
        refine lv_iload_n hx hb (dc tbX5_allows_k 15 rfl) rfl (lv_at hl 2 rfl) ?_
        refine lv_aload_n hx hb (dc tbX5_allows_k 16 rfl) rfl (lv_at hl 0 rfl) ?_
        refine g_wf2 hx hb hown hts hsx hI hk0 q_t10_39 (dc tbX5_allows_k 17 rfl) ?_
        refine lv_icmp_gt (tgt := 66) hx hb (dc tbX5_allows_k 18 rfl) rfl (fun c6 => ?_) (fun c6 => ?_)
        · have hf := ite_t c6 hf
          refine lv_iconst (v := 0) hx hb (dc tbX5_allows_k 21 rfl) ic_0 ?_
          cases hf
          exact g_zret hx hb hr hlk hI rfl (dc tbX5_allows_k 22 rfl)
        · have hf := ite_f c6 hf
          refine lv_iconst (v := 1) hx hb (dc tbX5_allows_k 19 rfl) ic_1 ?_
          refine lv_goto (tgt := 67) hx hb (dc tbX5_allows_k 20 rfl) rfl ?_
          cases hf
          exact g_zret hx hb hr hlk hI rfl (dc tbX5_allows_k 22 rfl)
    · have hf := ite_f c4 hf
      refine lv_lookup (off := 67) (tgt := 68) hx hb dX5_allows_1 (by decide) (by show Op.lookupswitch.offset [(0, 27), (1, 49)] 67 _ = _; rw [lv_osw (a := 0) c1 rfl, lv_osw (a := 1) c4 rfl]; rfl) rfl ?_
      refine lv_iload_n hx hb (dc tbX5_allows_k 23 rfl) rfl (lv_at hl 2 rfl) ?_
      refine lv_if_lt (tgt := 84) hx hb (dc tbX5_allows_k 24 rfl) rfl (fun c7 => ?_) (fun c7 => ?_)
      · have hf := ite_t c7 hf
        refine lv_iconst (v := 0) hx hb (dc tbX5_allows_k 31 rfl) ic_0 ?_
        cases hf
        exact g_zret hx hb hr hlk hI rfl (dc tbX5_allows_k 32 rfl)
      · have hf := ite_f c7 hf
        refine lv_iload_n hx hb (dc tbX5_allows_k 25 rfl) rfl (lv_at hl 2 rfl) ?_
        refine lv_aload_n hx hb (dc tbX5_allows_k 26 rfl) rfl (lv_at hl 0 rfl) ?_
        refine g_wf3 hx hb hown hts hsx hI hk0 q_t10_38 (dc tbX5_allows_k 27 rfl) ?_
        refine lv_icmp_gt (tgt := 84) hx hb (dc tbX5_allows_k 28 rfl) rfl (fun c8 => ?_) (fun c8 => ?_)
        · have hf := ite_t c8 hf
          refine lv_iconst (v := 0) hx hb (dc tbX5_allows_k 31 rfl) ic_0 ?_
          cases hf
          exact g_zret hx hb hr hlk hI rfl (dc tbX5_allows_k 32 rfl)
        · have hf := ite_f c8 hf
          refine lv_iconst (v := 1) hx hb (dc tbX5_allows_k 29 rfl) ic_1 ?_
          refine lv_goto (tgt := 85) hx hb (dc tbX5_allows_k 30 rfl) rfl ?_
          cases hf
          exact g_zret hx hb hr hlk hI rfl (dc tbX5_allows_k 32 rfl)
theorem cv_X5_allows : cvF RX5 yX5_allows cX5_allows 3 (some .boolean) 2 := ⟨q_t5_194, q_t5_195, q_t1_17, q_t5_196, by decide +kernel⟩
def mX5_allowsBehind_b21 (k0 : Nat) (M : Mem) : Option Int32 := some (1 : Int32)
set_option maxHeartbeats 4000000 in
set_option maxRecDepth 100000 in
theorem tX5_allowsBehind_b21 {p : Program} {l : Launch} {e : Env} {s : State} {m : MethodId} {args : Array Value} {below : List Frame} {meth : Method} {c : Code} {G : GT} {kd : Nat → Nat × Nat} {ad : Nat → Nat} (C : Cx p s m args meth c cX5_allowsBehind 4 (some .boolean) RX5 G kd ad) {k0 : Nat} (hk0 : k0 < 11) {M : Mem} {vo : Int32}   : mX5_allowsBehind_b21 k0 M = some vo → At p l e (rmO 1 0 0) s m args below meth c 0 0 (MQ below (Qg G kd ad s.heap.size M (some (.int vo))) args s 0 0 (AS kd ad s.heap.size)) G kd ad 4 21 [] [] M := by
  intro hf H locs ls hI hl
  obtain ⟨hx, hb, hml, hr, hown, hts, hlk, hK, hap, hsx⟩ := id C
  unfold mX5_allowsBehind_b21 at hf
  refine lv_iconst (v := 1) hx hb (dc tbX5_allowsBehind_k 11 rfl) ic_1 ?_
  refine lv_goto (tgt := 26) hx hb (dc tbX5_allowsBehind_k 12 rfl) rfl ?_
  cases hf
  exact g_zret hx hb hr hlk hI rfl (dc tbX5_allowsBehind_k 14 rfl)
def mX5_allowsBehind (k0 : Nat) (x1 : Int32) (x2 : Int32) (x3 : Int32) (M : Mem) : Option Int32 := cap (mX5_allows k0 x2 x3 M) (fun r2 => ite2 (r2 = 0) (some (0 : Int32)) (ite2 (k0 = 8) (ite2 (x3 < x1) (some (0 : Int32)) (mX5_allowsBehind_b21 k0 M)) (mX5_allowsBehind_b21 k0 M)))
set_option maxHeartbeats 4000000 in
set_option maxRecDepth 100000 in
theorem tX5_allowsBehind (l : Launch) {G : GT} {kd : Nat → Nat × Nat} {ad : Nat → Nat} {k0 : Nat} (hk0 : k0 < 11) {x1 : Int32} {x2 : Int32} {x3 : Int32} {M : Mem} {vo : Int32} (hf : mX5_allowsBehind k0 x1 x2 x3 M = some vo) (n : Nat) : Met l yX5_allowsBehind (Cond.code yX5_allowsBehind cX5_allowsBehind 4 (some .boolean) :: WA) (rmO 1 0 0) (Pg G kd ad n [.ref (G.2.2 k0), .int x1, .int x2, .int x3] M) (Qg G kd ad n M (some (.int vo))) 0 0 (AS kd ad n) := by
  refine g_body (own := RX5) (by decide) rfl ?_ (Nat.le_of_ble_eq_true rfl)
  intro p e s m args below meth c C _ H locs ls hI hl
  obtain ⟨hx, hb, hml, hr, hown, hts, hlk, hK, hap, hsx⟩ := id C
  have hl : lv_has ls 4 [(0, .ref (G.2.2 k0)), (1, .int x1), (2, .int x2), (3, .int x3)] := hl
  unfold mX5_allowsBehind at hf
  refine lv_aload_n hx hb (dc tbX5_allowsBehind_k 0 rfl) rfl (lv_at hl 0 rfl) ?_
  refine lv_iload_n hx hb (dc tbX5_allowsBehind_k 1 rfl) rfl (lv_at hl 2 rfl) ?_
  refine lv_iload_n hx hb (dc tbX5_allowsBehind_k 2 rfl) rfl (lv_at hl 3 rfl) ?_
  obtain ⟨r2, q1, hf⟩ := cap_s hf
  refine g_callWi hx hb hml hown hts hK hap hsx hI (tX5_allows l hk0 q1 H.size) cv_X5_allows q_t5_201 rfl rfl ⟨Nat.le_of_ble_eq_true rfl, Nat.le_of_ble_eq_true rfl⟩ hk0 rfl hl.1 rfl (Nat.le_of_ble_eq_true rfl) (dc tbX5_allowsBehind_k 3 rfl) ⟨Nat.le_of_ble_eq_true rfl, Nat.le_of_ble_eq_true rfl⟩ (fun H locs hI => ?_)
  refine lv_if_eq (tgt := 25) hx hb (dc tbX5_allowsBehind_k 4 rfl) rfl (fun c4 => ?_) (fun c4 => ?_)
  · have hf := ite_t c4 hf
    refine lv_iconst (v := 0) hx hb (dc tbX5_allowsBehind_k 13 rfl) ic_0 ?_
    cases hf
    exact g_zret hx hb hr hlk hI rfl (dc tbX5_allowsBehind_k 14 rfl)
  · have hf := ite_f c4 hf
    refine lv_aload_n hx hb (dc tbX5_allowsBehind_k 5 rfl) rfl (lv_at hl 0 rfl) ?_
    refine g_gsW 8 (by decide) hx hb hown hts hsx hI q_t5_202 (dc tbX5_allowsBehind_k 6 rfl) ?_
    refine g_wne (tgt := 21) hx hb hsx hk0 (by decide) (dc tbX5_allowsBehind_k 7 rfl) rfl (fun c5 => ?_) (fun c5 => ?_)
    · have hf := ite_f c5 hf
      exact tX5_allowsBehind_b21 C hk0 hf _ _ _ hI (lv_sub hl [] rfl)
    · have hf := ite_t c5 hf
      refine lv_iload_n hx hb (dc tbX5_allowsBehind_k 8 rfl) rfl (lv_at hl 3 rfl) ?_
      refine lv_iload_n hx hb (dc tbX5_allowsBehind_k 9 rfl) rfl (lv_at hl 1 rfl) ?_
      refine lv_icmp_lt (tgt := 25) hx hb (dc tbX5_allowsBehind_k 10 rfl) rfl (fun c6 => ?_) (fun c6 => ?_)
      · have hf := ite_t c6 hf
        refine lv_iconst (v := 0) hx hb (dc tbX5_allowsBehind_k 13 rfl) ic_0 ?_
        cases hf
        exact g_zret hx hb hr hlk hI rfl (dc tbX5_allowsBehind_k 14 rfl)
      · have hf := ite_f c6 hf
        exact tX5_allowsBehind_b21 C hk0 hf _ _ _ hI (lv_sub hl [] rfl)
theorem cv_X5_allowsBehind : cvF RX5 yX5_allowsBehind cX5_allowsBehind 4 (some .boolean) 3 := ⟨q_t5_198, q_t5_199, q_t1_17, q_t5_200, by decide +kernel⟩
def mX5_isBend_b14 (k0 : Nat) (M : Mem) : Option Int32 := some (1 : Int32)
set_option maxHeartbeats 4000000 in
set_option maxRecDepth 100000 in
theorem tX5_isBend_b14 {p : Program} {l : Launch} {e : Env} {s : State} {m : MethodId} {args : Array Value} {below : List Frame} {meth : Method} {c : Code} {G : GT} {kd : Nat → Nat × Nat} {ad : Nat → Nat} (C : Cx p s m args meth c cX5_isBend 1 (some .boolean) RX5 G kd ad) {k0 : Nat} (hk0 : k0 < 11) {M : Mem} {vo : Int32}   : mX5_isBend_b14 k0 M = some vo → At p l e (rmO 0 0 0) s m args below meth c 0 0 (MQ below (Qg G kd ad s.heap.size M (some (.int vo))) args s 0 0 (AS kd ad s.heap.size)) G kd ad 1 14 [] [] M := by
  intro hf H locs ls hI hl
  obtain ⟨hx, hb, hml, hr, hown, hts, hlk, hK, hap, hsx⟩ := id C
  unfold mX5_isBend_b14 at hf
  refine lv_iconst (v := 1) hx hb (dc tbX5_isBend_k 6 rfl) ic_1 ?_
  refine lv_goto (tgt := 19) hx hb (dc tbX5_isBend_k 7 rfl) rfl ?_
  cases hf
  exact g_zret hx hb hr hlk hI rfl (dc tbX5_isBend_k 9 rfl)
def mX5_isBend (k0 : Nat) (M : Mem) : Option Int32 := ite2 (k0 = 2) (mX5_isBend_b14 k0 M) (ite2 (k0 = 3) (mX5_isBend_b14 k0 M) (some (0 : Int32)))
set_option maxHeartbeats 4000000 in
set_option maxRecDepth 100000 in
theorem tX5_isBend (l : Launch) {G : GT} {kd : Nat → Nat × Nat} {ad : Nat → Nat} {k0 : Nat} (hk0 : k0 < 11) {M : Mem} {vo : Int32} (hf : mX5_isBend k0 M = some vo) (n : Nat) : Met l yX5_isBend (Cond.code yX5_isBend cX5_isBend 1 (some .boolean) :: WA) (rmO 0 0 0) (Pg G kd ad n [.ref (G.2.2 k0)] M) (Qg G kd ad n M (some (.int vo))) 0 0 (AS kd ad n) := by
  refine g_body (own := RX5) (by decide) rfl ?_ (Nat.le_of_ble_eq_true rfl)
  intro p e s m args below meth c C _ H locs ls hI hl
  obtain ⟨hx, hb, hml, hr, hown, hts, hlk, hK, hap, hsx⟩ := id C
  have hl : lv_has ls 1 [(0, .ref (G.2.2 k0))] := hl
  unfold mX5_isBend at hf
  refine lv_aload_n hx hb (dc tbX5_isBend_k 0 rfl) rfl (lv_at hl 0 rfl) ?_
  refine g_gsW 2 (by decide) hx hb hown hts hsx hI q_t5_178 (dc tbX5_isBend_k 1 rfl) ?_
  refine g_weq (tgt := 14) hx hb hsx hk0 (by decide) (dc tbX5_isBend_k 2 rfl) rfl (fun c1 => ?_) (fun c1 => ?_)
  · have hf := ite_t c1 hf
    exact tX5_isBend_b14 C hk0 hf _ _ _ hI (lv_sub hl [] rfl)
  · have hf := ite_f c1 hf
    refine lv_aload_n hx hb (dc tbX5_isBend_k 3 rfl) rfl (lv_at hl 0 rfl) ?_
    refine g_gsW 3 (by decide) hx hb hown hts hsx hI q_t5_180 (dc tbX5_isBend_k 4 rfl) ?_
    refine g_wne (tgt := 18) hx hb hsx hk0 (by decide) (dc tbX5_isBend_k 5 rfl) rfl (fun c2 => ?_) (fun c2 => ?_)
    · have hf := ite_f c2 hf
      refine lv_iconst (v := 0) hx hb (dc tbX5_isBend_k 8 rfl) ic_0 ?_
      cases hf
      exact g_zret hx hb hr hlk hI rfl (dc tbX5_isBend_k 9 rfl)
    · have hf := ite_t c2 hf
      exact tX5_isBend_b14 C hk0 hf _ _ _ hI (lv_sub hl [] rfl)
theorem cv_X5_isBend : cvF RX5 yX5_isBend cX5_isBend 1 (some .boolean) 0 := ⟨q_t5_175, q_t5_176, q_t1_17, q_t5_177, by decide +kernel⟩
end
/-! part 26.c4 -/
section
def mX4_isSpace_b12 (M : Mem) : Option Int32 := some (1 : Int32)
set_option maxHeartbeats 4000000 in
set_option maxRecDepth 100000 in
theorem tX4_isSpace_b12 {p : Program} {l : Launch} {e : Env} {s : State} {m : MethodId} {args : Array Value} {below : List Frame} {meth : Method} {c : Code} {G : GT} {kd : Nat → Nat × Nat} {ad : Nat → Nat} (C : Cx p s m args meth c cX4_isSpace 1 (some .boolean) RX4 G kd ad)  {M : Mem} {vo : Int32}   : mX4_isSpace_b12  M = some vo → At p l e (rmO 0 0 0) s m args below meth c 0 0 (MQ below (Qg G kd ad s.heap.size M (some (.int vo))) args s 0 0 (AS kd ad s.heap.size)) G kd ad 1 12 [] [] M := by
  intro hf H locs ls hI hl
  obtain ⟨hx, hb, hml, hr, hown, hts, hlk, hK, hap, hsx⟩ := id C
  unfold mX4_isSpace_b12 at hf
  refine lv_iconst (v := 1) hx hb (dc tbX4_isSpace_k 6 rfl) ic_1 ?_
  refine lv_goto (tgt := 17) hx hb (dc tbX4_isSpace_k 7 rfl) rfl ?_
  cases hf
  exact g_zret hx hb hr hlk hI rfl (dc tbX4_isSpace_k 9 rfl)
def mX4_isSpace (x0 : Int32) (M : Mem) : Option Int32 := ite2 (x0 = (32 : Int32)) (mX4_isSpace_b12  M) (ite2 (x0 = (10 : Int32)) (mX4_isSpace_b12  M) (some (0 : Int32)))
set_option maxHeartbeats 4000000 in
set_option maxRecDepth 100000 in
theorem tX4_isSpace (l : Launch) {G : GT} {kd : Nat → Nat × Nat} {ad : Nat → Nat}  {x0 : Int32} {M : Mem} {vo : Int32} (hf : mX4_isSpace  x0 M = some vo) (n : Nat) : Met l yX4_isSpace (Cond.code yX4_isSpace cX4_isSpace 1 (some .boolean) :: WA) (rmO 0 0 0) (Pg G kd ad n [.int x0] M) (Qg G kd ad n M (some (.int vo))) 0 0 (AS kd ad n) := by
  refine g_body (own := RX4) (by decide) rfl ?_ (Nat.le_of_ble_eq_true rfl)
  intro p e s m args below meth c C _ H locs ls hI hl
  obtain ⟨hx, hb, hml, hr, hown, hts, hlk, hK, hap, hsx⟩ := id C
  have hl : lv_has ls 1 [(0, .int x0)] := hl
  unfold mX4_isSpace at hf
  refine lv_iload_n hx hb (dc tbX4_isSpace_k 0 rfl) rfl (lv_at hl 0 rfl) ?_
  refine lv_bipush (v := 32) hx hb (dc tbX4_isSpace_k 1 rfl) bp_32 ?_
  refine lv_icmp_eq (tgt := 12) hx hb (dc tbX4_isSpace_k 2 rfl) rfl (fun c1 => ?_) (fun c1 => ?_)
  · have hf := ite_t c1 hf
    exact tX4_isSpace_b12 C  hf _ _ _ hI (lv_sub hl [] rfl)
  · have hf := ite_f c1 hf
    refine lv_iload_n hx hb (dc tbX4_isSpace_k 3 rfl) rfl (lv_at hl 0 rfl) ?_
    refine lv_bipush (v := 10) hx hb (dc tbX4_isSpace_k 4 rfl) bp_10 ?_
    refine lv_icmp_ne (tgt := 16) hx hb (dc tbX4_isSpace_k 5 rfl) rfl (fun c2 => ?_) (fun c2 => ?_)
    · have hf := ite_f c2 hf
      refine lv_iconst (v := 0) hx hb (dc tbX4_isSpace_k 8 rfl) ic_0 ?_
      cases hf
      exact g_zret hx hb hr hlk hI rfl (dc tbX4_isSpace_k 9 rfl)
    · have hf := ite_t c2 hf
      exact tX4_isSpace_b12 C  hf _ _ _ hI (lv_sub hl [] rfl)
theorem cs_X4_isSpace : csF yX4_isSpace cX4_isSpace 1 (some .boolean) 1 := ⟨q_t5_119, q_t1_2, q_t5_120, by decide +kernel⟩
def mX4_isLetter (x0 : Int32) (M : Mem) : Option Int32 := ite2 (x0 < (97 : Int32)) (some (0 : Int32)) (ite2 ((122 : Int32) < x0) (some (0 : Int32)) (some (1 : Int32)))
set_option maxHeartbeats 4000000 in
set_option maxRecDepth 100000 in
theorem tX4_isLetter (l : Launch) {G : GT} {kd : Nat → Nat × Nat} {ad : Nat → Nat}  {x0 : Int32} {M : Mem} {vo : Int32} (hf : mX4_isLetter  x0 M = some vo) (n : Nat) : Met l yX4_isLetter (Cond.code yX4_isLetter cX4_isLetter 1 (some .boolean) :: WA) (rmO 0 0 0) (Pg G kd ad n [.int x0] M) (Qg G kd ad n M (some (.int vo))) 0 0 (AS kd ad n) := by
  refine g_body (own := RX4) (by decide) rfl ?_ (Nat.le_of_ble_eq_true rfl)
  intro p e s m args below meth c C _ H locs ls hI hl
  obtain ⟨hx, hb, hml, hr, hown, hts, hlk, hK, hap, hsx⟩ := id C
  have hl : lv_has ls 1 [(0, .int x0)] := hl
  unfold mX4_isLetter at hf
  refine lv_iload_n hx hb (dc tbX4_isLetter_k 0 rfl) rfl (lv_at hl 0 rfl) ?_
  refine lv_bipush (v := 97) hx hb (dc tbX4_isLetter_k 1 rfl) bp_97 ?_
  refine lv_icmp_lt (tgt := 16) hx hb (dc tbX4_isLetter_k 2 rfl) rfl (fun c1 => ?_) (fun c1 => ?_)
  · have hf := ite_t c1 hf
    refine lv_iconst (v := 0) hx hb (dc tbX4_isLetter_k 8 rfl) ic_0 ?_
    cases hf
    exact g_zret hx hb hr hlk hI rfl (dc tbX4_isLetter_k 9 rfl)
  · have hf := ite_f c1 hf
    refine lv_iload_n hx hb (dc tbX4_isLetter_k 3 rfl) rfl (lv_at hl 0 rfl) ?_
    refine lv_bipush (v := 122) hx hb (dc tbX4_isLetter_k 4 rfl) bp_122 ?_
    refine lv_icmp_gt (tgt := 16) hx hb (dc tbX4_isLetter_k 5 rfl) rfl (fun c2 => ?_) (fun c2 => ?_)
    · have hf := ite_t c2 hf
      refine lv_iconst (v := 0) hx hb (dc tbX4_isLetter_k 8 rfl) ic_0 ?_
      cases hf
      exact g_zret hx hb hr hlk hI rfl (dc tbX4_isLetter_k 9 rfl)
    · have hf := ite_f c2 hf
      refine lv_iconst (v := 1) hx hb (dc tbX4_isLetter_k 6 rfl) ic_1 ?_
      refine lv_goto (tgt := 17) hx hb (dc tbX4_isLetter_k 7 rfl) rfl ?_
      cases hf
      exact g_zret hx hb hr hlk hI rfl (dc tbX4_isLetter_k 9 rfl)
theorem cs_X4_isLetter : csF yX4_isLetter cX4_isLetter 1 (some .boolean) 1 := ⟨q_t5_122, q_t1_2, q_t5_123, by decide +kernel⟩
def mX4_takeWord_b39 (k0 : Nat) (M : Mem) : Option (Mem × Unit) := ite2 ((6 : Int32) < ((rd M k0 5) - (rd M k0 4))) (bnd (wr M k0 6 (1 : Int32)) (fun M3 => some (M3, ()))) (bnd (wr M k0 6 (2 : Int32)) (fun M5 => some (M5, ())))
set_option maxHeartbeats 4000000 in
set_option maxRecDepth 100000 in
theorem tX4_takeWord_b39 {p : Program} {l : Launch} {e : Env} {s : State} {m : MethodId} {args : Array Value} {below : List Frame} {meth : Method} {c : Code} {G : GT} {kd : Nat → Nat × Nat} {ad : Nat → Nat} (C : Cx p s m args meth c cX4_takeWord 1 none RX4 G kd ad) {k0 : Nat} (hk0 : kReader kd k0) {MO : Mem} {vo : Unit}   : ∀  (M : Mem), mX4_takeWord_b39 k0 M = some (MO, vo) → At p l e (rmO 1 0 0) s m args below meth c 0 0 (MQ below (Qg G kd ad s.heap.size MO none) args s 0 0 (AS kd ad s.heap.size)) G kd ad 1 39 [(0, .ref (ad k0))] [] M := by
  intro M hf H locs ls hI hl
  obtain ⟨hx, hb, hml, hr, hown, hts, hlk, hK, hap, hsx⟩ := id C
  unfold mX4_takeWord_b39 at hf
  refine lv_aload_n hx hb (dc tbX4_takeWord_k 19 rfl) rfl (lv_at hl 0 rfl) ?_
  refine lv_aload_n hx hb (dc tbX4_takeWord_k 20 rfl) rfl (lv_at hl 0 rfl) ?_
  refine gg4_5 hx hb hts hown hK hI hk0.1 q_t1_50 (dc tbX4_takeWord_k 21 rfl) ?_
  refine lv_aload_n hx hb (dc tbX4_takeWord_k 22 rfl) rfl (lv_at hl 0 rfl) ?_
  refine gg4_4 hx hb hts hown hK hI hk0.1 q_t1_49 (dc tbX4_takeWord_k 23 rfl) ?_
  refine lv_isub hx hb (dc tbX4_takeWord_k 24 rfl) ?_
  refine lv_bipush (v := 6) hx hb (dc tbX4_takeWord_k 25 rfl) bp_6 ?_
  refine lv_icmp_gt (tgt := 58) hx hb (dc tbX4_takeWord_k 26 rfl) rfl (fun c2 => ?_) (fun c2 => ?_)
  · have hf := ite_t c2 hf
    refine lv_iconst (v := 1) hx hb (dc tbX4_takeWord_k 29 rfl) ic_1 ?_
    obtain ⟨M3, e4, hf⟩ := bnd_s hf
    refine gp4_6 hx hb hts hown hK hap hI hk0.1 q_t1_51 (dc tbX4_takeWord_k 30 rfl) e4 (fun H locs hI => ?_)
    cases hf
    exact g_vret hx hb hr hlk hI (dc tbX4_takeWord_k 31 rfl)
  · have hf := ite_f c2 hf
    refine lv_iconst (v := 2) hx hb (dc tbX4_takeWord_k 27 rfl) ic_2 ?_
    refine lv_goto (tgt := 59) hx hb (dc tbX4_takeWord_k 28 rfl) rfl ?_
    obtain ⟨M5, e6, hf⟩ := bnd_s hf
    refine gp4_6 hx hb hts hown hK hap hI hk0.1 q_t1_51 (dc tbX4_takeWord_k 30 rfl) e6 (fun H locs hI => ?_)
    cases hf
    exact g_vret hx hb hr hlk hI (dc tbX4_takeWord_k 31 rfl)
def mX4_takeWord_b0 (k0 : Nat) (ih0 : Mem → Option (Mem × Unit)) (M : Mem) : Option (Mem × Unit) := ite2 ((rd M k0 3) ≤ (rd M k0 5)) (mX4_takeWord_b39 k0 M) (chk (decide (rd M k0 2 = 1)) (chk (okb (rd M k0 5) 600) (cap (mX4_isLetter (rd M 1 ((rd M k0 5)).toNatClampNeg) M) (fun r10 => ite2 (r10 = 0) (mX4_takeWord_b39 k0 M) (bnd (wr M k0 5 ((rd M k0 5) + (1 : Int32))) (fun M13 => ih0 M13))))))
set_option maxHeartbeats 4000000 in
set_option maxRecDepth 100000 in
theorem tX4_takeWord_b0 {p : Program} {l : Launch} {e : Env} {s : State} {m : MethodId} {args : Array Value} {below : List Frame} {meth : Method} {c : Code} {G : GT} {kd : Nat → Nat × Nat} {ad : Nat → Nat} (C : Cx p s m args meth c cX4_takeWord 1 none RX4 G kd ad) {k0 : Nat} (hk0 : kReader kd k0) {MO : Mem} {vo : Unit} {ih0 : Mem → Option (Mem × Unit)} (hih0 : ∀  (M : Mem), ih0 M = some (MO, vo) → At p l e (rmO 1 0 0) s m args below meth c 0 0 (MQ below (Qg G kd ad s.heap.size MO none) args s 0 0 (AS kd ad s.heap.size)) G kd ad 1 0 [(0, .ref (ad k0))] [] M) : ∀  (M : Mem), mX4_takeWord_b0 k0 ih0 M = some (MO, vo) → At p l e (rmO 1 0 0) s m args below meth c 0 0 (MQ below (Qg G kd ad s.heap.size MO none) args s 0 0 (AS kd ad s.heap.size)) G kd ad 1 0 [(0, .ref (ad k0))] [] M := by
  intro M hf H locs ls hI hl
  obtain ⟨hx, hb, hml, hr, hown, hts, hlk, hK, hap, hsx⟩ := id C
  unfold mX4_takeWord_b0 at hf
  refine lv_aload_n hx hb (dc tbX4_takeWord_k 0 rfl) rfl (lv_at hl 0 rfl) ?_
  refine gg4_5 hx hb hts hown hK hI hk0.1 q_t1_50 (dc tbX4_takeWord_k 1 rfl) ?_
  refine lv_aload_n hx hb (dc tbX4_takeWord_k 2 rfl) rfl (lv_at hl 0 rfl) ?_
  refine gg4_3 hx hb hts hown hK hI hk0.1 q_t1_48 (dc tbX4_takeWord_k 3 rfl) ?_
  refine lv_icmp_ge (tgt := 39) hx hb (dc tbX4_takeWord_k 4 rfl) rfl (fun c1 => ?_) (fun c1 => ?_)
  · have hf := ite_t c1 hf
    exact tX4_takeWord_b39 C hk0 M hf _ _ _ hI (lv_sub hl [0] rfl)
  · have hf := ite_f c1 hf
    refine lv_aload_n hx hb (dc tbX4_takeWord_k 5 rfl) rfl (lv_at hl 0 rfl) ?_
    obtain ⟨h7, hf⟩ := chk_s hf
    refine gg4_2 hx hb hts hown hK hI hk0.1 q_t1_47 (dc tbX4_takeWord_k 6 rfl) ?_
    rw [byt_b h7]
    refine lv_aload_n hx hb (dc tbX4_takeWord_k 7 rfl) rfl (lv_at hl 0 rfl) ?_
    refine gg4_5 hx hb hts hown hK hI hk0.1 q_t1_50 (dc tbX4_takeWord_k 8 rfl) ?_
    obtain ⟨h8, hf⟩ := chk_s hf
    refine g_bald hx hb hK hI hk0.2.2 (okb_in h8) (dc tbX4_takeWord_k 9 rfl) ?_
    obtain ⟨r10, q9, hf⟩ := cap_s hf
    refine g_callSi hx hb hml hown hts hK hap hsx hI (tX4_isLetter l  q9 H.size) cs_X4_isLetter q_t5_121 rfl rfl ⟨Nat.le_of_ble_eq_true rfl, Nat.le_of_ble_eq_true rfl⟩ rfl hl.1 rfl (Nat.le_of_ble_eq_true rfl) (dc tbX4_takeWord_k 10 rfl) ⟨Nat.le_of_ble_eq_true rfl, Nat.le_of_ble_eq_true rfl⟩ (fun H locs hI => ?_)
    refine lv_if_eq (tgt := 39) hx hb (dc tbX4_takeWord_k 11 rfl) rfl (fun c12 => ?_) (fun c12 => ?_)
    · have hf := ite_t c12 hf
      exact tX4_takeWord_b39 C hk0 M hf _ _ _ hI (lv_sub hl [0] rfl)
    · have hf := ite_f c12 hf
      refine lv_aload_n hx hb (dc tbX4_takeWord_k 12 rfl) rfl (lv_at hl 0 rfl) ?_
      refine lv_dup hx hb (dc tbX4_takeWord_k 13 rfl) rfl ?_
      refine gg4_5 hx hb hts hown hK hI hk0.1 q_t1_50 (dc tbX4_takeWord_k 14 rfl) ?_
      refine lv_iconst (v := 1) hx hb (dc tbX4_takeWord_k 15 rfl) ic_1 ?_
      refine lv_iadd hx hb (dc tbX4_takeWord_k 16 rfl) ?_
      obtain ⟨M13, e14, hf⟩ := bnd_s hf
      refine gp4_5 hx hb hts hown hK hap hI hk0.1 q_t1_50 (dc tbX4_takeWord_k 17 rfl) e14 (fun H locs hI => ?_)
      refine lv_goto (tgt := 0) hx hb (dc tbX4_takeWord_k 18 rfl) rfl ?_
      exact hih0 M13 hf _ _ _ hI (lv_sub hl [0] rfl)
def mX4_takeWord_l0 (k0 : Nat) : Nat → Mem → Option (Mem × Unit)
  | 0 => fun  _ => none
  | n + 1 => mX4_takeWord_b0 k0 (mX4_takeWord_l0 k0 n)
theorem tX4_takeWord_l0 {p : Program} {l : Launch} {e : Env} {s : State} {m : MethodId} {args : Array Value} {below : List Frame} {meth : Method} {c : Code} {G : GT} {kd : Nat → Nat × Nat} {ad : Nat → Nat} (C : Cx p s m args meth c cX4_takeWord 1 none RX4 G kd ad) {k0 : Nat} (hk0 : kReader kd k0) {MO : Mem} {vo : Unit}   : ∀ (fuel : Nat)  (M : Mem), mX4_takeWord_l0 k0 fuel M = some (MO, vo) → At p l e (rmO 1 0 0) s m args below meth c 0 0 (MQ below (Qg G kd ad s.heap.size MO none) args s 0 0 (AS kd ad s.heap.size)) G kd ad 1 0 [(0, .ref (ad k0))] [] M := by
  intro fuel
  induction fuel with
  | zero => intro M hf; cases hf
  | succ n IH => exact tX4_takeWord_b0 C hk0 IH
def mX4_takeWord (k0 : Nat) (M : Mem) : Option (Mem × Unit) := mX4_takeWord_l0 k0 5000 M
set_option maxHeartbeats 4000000 in
set_option maxRecDepth 100000 in
theorem tX4_takeWord (l : Launch) {G : GT} {kd : Nat → Nat × Nat} {ad : Nat → Nat} {k0 : Nat} (hk0 : kReader kd k0) {M : Mem} {MO : Mem} {vo : Unit} (hf : mX4_takeWord k0 M = some (MO, vo)) (n : Nat) : Met l yX4_takeWord (Cond.code yX4_takeWord cX4_takeWord 1 none :: WA) (rmO 1 0 0) (Pg G kd ad n [.ref (ad k0)] M) (Qg G kd ad n MO none) 0 0 (AS kd ad n) := by
  refine g_body (own := RX4) (by decide) rfl ?_ (Nat.le_of_ble_eq_true rfl)
  intro p e s m args below meth c C _ H locs ls hI hl
  obtain ⟨hx, hb, hml, hr, hown, hts, hlk, hK, hap, hsx⟩ := id C
  have hl : lv_has ls 1 [(0, .ref (ad k0))] := hl
  unfold mX4_takeWord at hf
  exact tX4_takeWord_l0 C hk0 5000 M hf _ _ _ hI (lv_sub hl [0] rfl)
theorem cv_X4_takeWord : cvF RX4 yX4_takeWord cX4_takeWord 1 none 0 := ⟨q_t5_126, q_s2_4, q_t1_2, q_t5_127, by decide +kernel⟩
def mX4_isDigit (x0 : Int32) (M : Mem) : Option Int32 := ite2 (x0 < (48 : Int32)) (some (0 : Int32)) (ite2 ((57 : Int32) < x0) (some (0 : Int32)) (some (1 : Int32)))
set_option maxHeartbeats 4000000 in
set_option maxRecDepth 100000 in
theorem tX4_isDigit (l : Launch) {G : GT} {kd : Nat → Nat × Nat} {ad : Nat → Nat}  {x0 : Int32} {M : Mem} {vo : Int32} (hf : mX4_isDigit  x0 M = some vo) (n : Nat) : Met l yX4_isDigit (Cond.code yX4_isDigit cX4_isDigit 1 (some .boolean) :: WA) (rmO 0 0 0) (Pg G kd ad n [.int x0] M) (Qg G kd ad n M (some (.int vo))) 0 0 (AS kd ad n) := by
  refine g_body (own := RX4) (by decide) rfl ?_ (Nat.le_of_ble_eq_true rfl)
  intro p e s m args below meth c C _ H locs ls hI hl
  obtain ⟨hx, hb, hml, hr, hown, hts, hlk, hK, hap, hsx⟩ := id C
  have hl : lv_has ls 1 [(0, .int x0)] := hl
  unfold mX4_isDigit at hf
  refine lv_iload_n hx hb (dc tbX4_isDigit_k 0 rfl) rfl (lv_at hl 0 rfl) ?_
  refine lv_bipush (v := 48) hx hb (dc tbX4_isDigit_k 1 rfl) bp_48 ?_
  refine lv_icmp_lt (tgt := 16) hx hb (dc tbX4_isDigit_k 2 rfl) rfl (fun c1 => ?_) (fun c1 => ?_)
  · have hf := ite_t c1 hf
    refine lv_iconst (v := 0) hx hb (dc tbX4_isDigit_k 8 rfl) ic_0 ?_
    cases hf
    exact g_zret hx hb hr hlk hI rfl (dc tbX4_isDigit_k 9 rfl)
  · have hf := ite_f c1 hf
    refine lv_iload_n hx hb (dc tbX4_isDigit_k 3 rfl) rfl (lv_at hl 0 rfl) ?_
    refine lv_bipush (v := 57) hx hb (dc tbX4_isDigit_k 4 rfl) bp_57 ?_
    refine lv_icmp_gt (tgt := 16) hx hb (dc tbX4_isDigit_k 5 rfl) rfl (fun c2 => ?_) (fun c2 => ?_)
    · have hf := ite_t c2 hf
      refine lv_iconst (v := 0) hx hb (dc tbX4_isDigit_k 8 rfl) ic_0 ?_
      cases hf
      exact g_zret hx hb hr hlk hI rfl (dc tbX4_isDigit_k 9 rfl)
    · have hf := ite_f c2 hf
      refine lv_iconst (v := 1) hx hb (dc tbX4_isDigit_k 6 rfl) ic_1 ?_
      refine lv_goto (tgt := 17) hx hb (dc tbX4_isDigit_k 7 rfl) rfl ?_
      cases hf
      exact g_zret hx hb hr hlk hI rfl (dc tbX4_isDigit_k 9 rfl)
theorem cs_X4_isDigit : csF yX4_isDigit cX4_isDigit 1 (some .boolean) 1 := ⟨q_t5_129, q_t1_2, q_t5_130, by decide +kernel⟩
def mX4_takeNumber_b76 (k0 : Nat) (M : Mem) : Option (Mem × Unit) := ite2 ((4 : Int32) < ((rd M k0 5) - (rd M k0 4))) (bnd (wr M k0 6 (1 : Int32)) (fun M3 => some (M3, ()))) (bnd (wr M k0 6 (3 : Int32)) (fun M5 => some (M5, ())))
set_option maxHeartbeats 4000000 in
set_option maxRecDepth 100000 in
theorem tX4_takeNumber_b76 {p : Program} {l : Launch} {e : Env} {s : State} {m : MethodId} {args : Array Value} {below : List Frame} {meth : Method} {c : Code} {G : GT} {kd : Nat → Nat × Nat} {ad : Nat → Nat} (C : Cx p s m args meth c cX4_takeNumber 1 none RX4 G kd ad) {k0 : Nat} (hk0 : kReader kd k0) {MO : Mem} {vo : Unit}   : ∀  (M : Mem), mX4_takeNumber_b76 k0 M = some (MO, vo) → At p l e (rmO 1 0 0) s m args below meth c 0 0 (MQ below (Qg G kd ad s.heap.size MO none) args s 0 0 (AS kd ad s.heap.size)) G kd ad 1 76 [(0, .ref (ad k0))] [] M := by
  intro M hf H locs ls hI hl
  obtain ⟨hx, hb, hml, hr, hown, hts, hlk, hK, hap, hsx⟩ := id C
  unfold mX4_takeNumber_b76 at hf
  refine lv_aload_n hx hb (dc tbX4_takeNumber_1_k 0 rfl) rfl (lv_at hl 0 rfl) ?_
  refine lv_aload_n hx hb (dc tbX4_takeNumber_1_k 1 rfl) rfl (lv_at hl 0 rfl) ?_
  refine gg4_5 hx hb hts hown hK hI hk0.1 q_t1_50 (dc tbX4_takeNumber_1_k 2 rfl) ?_
  refine lv_aload_n hx hb (dc tbX4_takeNumber_1_k 3 rfl) rfl (lv_at hl 0 rfl) ?_
  refine gg4_4 hx hb hts hown hK hI hk0.1 q_t1_49 (dc tbX4_takeNumber_1_k 4 rfl) ?_
  refine lv_isub hx hb (dc tbX4_takeNumber_1_k 5 rfl) ?_
  refine lv_iconst (v := 4) hx hb (dc tbX4_takeNumber_1_k 6 rfl) ic_4 ?_
  refine lv_icmp_gt (tgt := 94) hx hb (dc tbX4_takeNumber_1_k 7 rfl) rfl (fun c2 => ?_) (fun c2 => ?_)
  · have hf := ite_t c2 hf
    refine lv_iconst (v := 1) hx hb (dc tbX4_takeNumber_1_k 10 rfl) ic_1 ?_
    obtain ⟨M3, e4, hf⟩ := bnd_s hf
    refine gp4_6 hx hb hts hown hK hap hI hk0.1 q_t1_51 (dc tbX4_takeNumber_1_k 11 rfl) e4 (fun H locs hI => ?_)
    cases hf
    exact g_vret hx hb hr hlk hI (dc tbX4_takeNumber_1_k 12 rfl)
  · have hf := ite_f c2 hf
    refine lv_iconst (v := 3) hx hb (dc tbX4_takeNumber_1_k 8 rfl) ic_3 ?_
    refine lv_goto (tgt := 95) hx hb (dc tbX4_takeNumber_1_k 9 rfl) rfl ?_
    obtain ⟨M5, e6, hf⟩ := bnd_s hf
    refine gp4_6 hx hb hts hown hK hap hI hk0.1 q_t1_51 (dc tbX4_takeNumber_1_k 11 rfl) e6 (fun H locs hI => ?_)
    cases hf
    exact g_vret hx hb hr hlk hI (dc tbX4_takeNumber_1_k 12 rfl)
def mX4_takeNumber_b63 (k0 : Nat) (ih0 : Mem → Option (Mem × Unit)) (M : Mem) : Option (Mem × Unit) := bnd (wr M k0 5 ((rd M k0 5) + (1 : Int32))) (fun M14 => ih0 M14)
set_option maxHeartbeats 4000000 in
set_option maxRecDepth 100000 in
theorem tX4_takeNumber_b63 {p : Program} {l : Launch} {e : Env} {s : State} {m : MethodId} {args : Array Value} {below : List Frame} {meth : Method} {c : Code} {G : GT} {kd : Nat → Nat × Nat} {ad : Nat → Nat} (C : Cx p s m args meth c cX4_takeNumber 1 none RX4 G kd ad) {k0 : Nat} (hk0 : kReader kd k0) {MO : Mem} {vo : Unit} {ih0 : Mem → Option (Mem × Unit)} (hih0 : ∀  (M : Mem), ih0 M = some (MO, vo) → At p l e (rmO 1 0 0) s m args below meth c 0 0 (MQ below (Qg G kd ad s.heap.size MO none) args s 0 0 (AS kd ad s.heap.size)) G kd ad 1 0 [(0, .ref (ad k0))] [] M) : ∀  (M : Mem), mX4_takeNumber_b63 k0 ih0 M = some (MO, vo) → At p l e (rmO 1 0 0) s m args below meth c 0 0 (MQ below (Qg G kd ad s.heap.size MO none) args s 0 0 (AS kd ad s.heap.size)) G kd ad 1 63 [(0, .ref (ad k0))] [] M := by
  intro M hf H locs ls hI hl
  obtain ⟨hx, hb, hml, hr, hown, hts, hlk, hK, hap, hsx⟩ := id C
  unfold mX4_takeNumber_b63 at hf
  refine lv_aload_n hx hb (dc tbX4_takeNumber_0_k 33 rfl) rfl (lv_at hl 0 rfl) ?_
  refine lv_dup hx hb (dc tbX4_takeNumber_0_k 34 rfl) rfl ?_
  refine gg4_5 hx hb hts hown hK hI hk0.1 q_t1_50 (dc tbX4_takeNumber_0_k 35 rfl) ?_
  refine lv_iconst (v := 1) hx hb (dc tbX4_takeNumber_0_k 36 rfl) ic_1 ?_
  refine lv_iadd hx hb (dc tbX4_takeNumber_0_k 37 rfl) ?_
  obtain ⟨M14, e15, hf⟩ := bnd_s hf
  refine gp4_5 hx hb hts hown hK hap hI hk0.1 q_t1_50 (dc tbX4_takeNumber_0_k 38 rfl) e15 (fun H locs hI => ?_)
  refine lv_goto (tgt := 0) hx hb (dc tbX4_takeNumber_0_k 39 rfl) rfl ?_
  exact hih0 M14 hf _ _ _ hI (lv_sub hl [0] rfl)
def mX4_takeNumber_b0 (k0 : Nat) (ih0 : Mem → Option (Mem × Unit)) (M : Mem) : Option (Mem × Unit) := ite2 ((rd M k0 3) ≤ (rd M k0 5)) (mX4_takeNumber_b76 k0 M) (chk (decide (rd M k0 2 = 1)) (chk (okb (rd M k0 5) 600) (cap (mX4_isDigit (rd M 1 ((rd M k0 5)).toNatClampNeg) M) (fun r10 => ite2 (r10 = 0) (mX4_takeNumber_b76 k0 M) (ite2 ((4 : Int32) ≤ ((rd M k0 5) - (rd M k0 4))) (mX4_takeNumber_b63 k0 ih0 M) (chk (decide (rd M k0 2 = 1)) (chk (okb (rd M k0 5) 600) (bnd (wr M k0 7 (((10 : Int32) * (rd M k0 7)) + ((rd M 1 ((rd M k0 5)).toNatClampNeg) - (48 : Int32)))) (fun M18 => mX4_takeNumber_b63 k0 ih0 M18)))))))))
set_option maxHeartbeats 4000000 in
set_option maxRecDepth 100000 in
theorem tX4_takeNumber_b0 {p : Program} {l : Launch} {e : Env} {s : State} {m : MethodId} {args : Array Value} {below : List Frame} {meth : Method} {c : Code} {G : GT} {kd : Nat → Nat × Nat} {ad : Nat → Nat} (C : Cx p s m args meth c cX4_takeNumber 1 none RX4 G kd ad) {k0 : Nat} (hk0 : kReader kd k0) {MO : Mem} {vo : Unit} {ih0 : Mem → Option (Mem × Unit)} (hih0 : ∀  (M : Mem), ih0 M = some (MO, vo) → At p l e (rmO 1 0 0) s m args below meth c 0 0 (MQ below (Qg G kd ad s.heap.size MO none) args s 0 0 (AS kd ad s.heap.size)) G kd ad 1 0 [(0, .ref (ad k0))] [] M) : ∀  (M : Mem), mX4_takeNumber_b0 k0 ih0 M = some (MO, vo) → At p l e (rmO 1 0 0) s m args below meth c 0 0 (MQ below (Qg G kd ad s.heap.size MO none) args s 0 0 (AS kd ad s.heap.size)) G kd ad 1 0 [(0, .ref (ad k0))] [] M := by
  intro M hf H locs ls hI hl
  obtain ⟨hx, hb, hml, hr, hown, hts, hlk, hK, hap, hsx⟩ := id C
  unfold mX4_takeNumber_b0 at hf
  refine lv_aload_n hx hb (dc tbX4_takeNumber_0_k 0 rfl) rfl (lv_at hl 0 rfl) ?_
  refine gg4_5 hx hb hts hown hK hI hk0.1 q_t1_50 (dc tbX4_takeNumber_0_k 1 rfl) ?_
  refine lv_aload_n hx hb (dc tbX4_takeNumber_0_k 2 rfl) rfl (lv_at hl 0 rfl) ?_
  refine gg4_3 hx hb hts hown hK hI hk0.1 q_t1_48 (dc tbX4_takeNumber_0_k 3 rfl) ?_
  refine lv_icmp_ge (tgt := 76) hx hb (dc tbX4_takeNumber_0_k 4 rfl) rfl (fun c1 => ?_) (fun c1 => ?_)
  · have hf := ite_t c1 hf
    exact tX4_takeNumber_b76 C hk0 M hf _ _ _ hI (lv_sub hl [0] rfl)
  · have hf := ite_f c1 hf
    refine lv_aload_n hx hb (dc tbX4_takeNumber_0_k 5 rfl) rfl (lv_at hl 0 rfl) ?_
    obtain ⟨h7, hf⟩ := chk_s hf
    refine gg4_2 hx hb hts hown hK hI hk0.1 q_t1_47 (dc tbX4_takeNumber_0_k 6 rfl) ?_
    rw [byt_b h7]
    refine lv_aload_n hx hb (dc tbX4_takeNumber_0_k 7 rfl) rfl (lv_at hl 0 rfl) ?_
    refine gg4_5 hx hb hts hown hK hI hk0.1 q_t1_50 (dc tbX4_takeNumber_0_k 8 rfl) ?_
    obtain ⟨h8, hf⟩ := chk_s hf
    refine g_bald hx hb hK hI hk0.2.2 (okb_in h8) (dc tbX4_takeNumber_0_k 9 rfl) ?_
    obtain ⟨r10, q9, hf⟩ := cap_s hf
    refine g_callSi hx hb hml hown hts hK hap hsx hI (tX4_isDigit l  q9 H.size) cs_X4_isDigit q_t5_128 rfl rfl ⟨Nat.le_of_ble_eq_true rfl, Nat.le_of_ble_eq_true rfl⟩ rfl hl.1 rfl (Nat.le_of_ble_eq_true rfl) (dc tbX4_takeNumber_0_k 10 rfl) ⟨Nat.le_of_ble_eq_true rfl, Nat.le_of_ble_eq_true rfl⟩ (fun H locs hI => ?_)
    refine lv_if_eq (tgt := 76) hx hb (dc tbX4_takeNumber_0_k 11 rfl) rfl (fun c12 => ?_) (fun c12 => ?_)
    · have hf := ite_t c12 hf
      exact tX4_takeNumber_b76 C hk0 M hf _ _ _ hI (lv_sub hl [0] rfl)
    · have hf := ite_f c12 hf
      refine lv_aload_n hx hb (dc tbX4_takeNumber_0_k 12 rfl) rfl (lv_at hl 0 rfl) ?_
      refine gg4_5 hx hb hts hown hK hI hk0.1 q_t1_50 (dc tbX4_takeNumber_0_k 13 rfl) ?_
      refine lv_aload_n hx hb (dc tbX4_takeNumber_0_k 14 rfl) rfl (lv_at hl 0 rfl) ?_
      refine gg4_4 hx hb hts hown hK hI hk0.1 q_t1_49 (dc tbX4_takeNumber_0_k 15 rfl) ?_
      refine lv_isub hx hb (dc tbX4_takeNumber_0_k 16 rfl) ?_
      refine lv_iconst (v := 4) hx hb (dc tbX4_takeNumber_0_k 17 rfl) ic_4 ?_
      refine lv_icmp_ge (tgt := 63) hx hb (dc tbX4_takeNumber_0_k 18 rfl) rfl (fun c13 => ?_) (fun c13 => ?_)
      · have hf := ite_t c13 hf
        exact tX4_takeNumber_b63 C hk0 hih0 M hf _ _ _ hI (lv_sub hl [0] rfl)
      · have hf := ite_f c13 hf
        refine lv_aload_n hx hb (dc tbX4_takeNumber_0_k 19 rfl) rfl (lv_at hl 0 rfl) ?_
        refine lv_bipush (v := 10) hx hb (dc tbX4_takeNumber_0_k 20 rfl) bp_10 ?_
        refine lv_aload_n hx hb (dc tbX4_takeNumber_0_k 21 rfl) rfl (lv_at hl 0 rfl) ?_
        refine gg4_7 hx hb hts hown hK hI hk0.1 q_t1_52 (dc tbX4_takeNumber_0_k 22 rfl) ?_
        refine lv_imul hx hb (dc tbX4_takeNumber_0_k 23 rfl) ?_
        refine lv_aload_n hx hb (dc tbX4_takeNumber_0_k 24 rfl) rfl (lv_at hl 0 rfl) ?_
        obtain ⟨h16, hf⟩ := chk_s hf
        refine gg4_2 hx hb hts hown hK hI hk0.1 q_t1_47 (dc tbX4_takeNumber_0_k 25 rfl) ?_
        rw [byt_b h16]
        refine lv_aload_n hx hb (dc tbX4_takeNumber_0_k 26 rfl) rfl (lv_at hl 0 rfl) ?_
        refine gg4_5 hx hb hts hown hK hI hk0.1 q_t1_50 (dc tbX4_takeNumber_0_k 27 rfl) ?_
        obtain ⟨h17, hf⟩ := chk_s hf
        refine g_bald hx hb hK hI hk0.2.2 (okb_in h17) (dc tbX4_takeNumber_0_k 28 rfl) ?_
        refine lv_bipush (v := 48) hx hb (dc tbX4_takeNumber_0_k 29 rfl) bp_48 ?_
        refine lv_isub hx hb (dc tbX4_takeNumber_0_k 30 rfl) ?_
        refine lv_iadd hx hb (dc tbX4_takeNumber_0_k 31 rfl) ?_
        obtain ⟨M18, e19, hf⟩ := bnd_s hf
        refine gp4_7 hx hb hts hown hK hap hI hk0.1 q_t1_52 (dc tbX4_takeNumber_0_k 32 rfl) e19 (fun H locs hI => ?_)
        exact tX4_takeNumber_b63 C hk0 hih0 M18 hf _ _ _ hI (lv_sub hl [0] rfl)
def mX4_takeNumber_l0 (k0 : Nat) : Nat → Mem → Option (Mem × Unit)
  | 0 => fun  _ => none
  | n + 1 => mX4_takeNumber_b0 k0 (mX4_takeNumber_l0 k0 n)
theorem tX4_takeNumber_l0 {p : Program} {l : Launch} {e : Env} {s : State} {m : MethodId} {args : Array Value} {below : List Frame} {meth : Method} {c : Code} {G : GT} {kd : Nat → Nat × Nat} {ad : Nat → Nat} (C : Cx p s m args meth c cX4_takeNumber 1 none RX4 G kd ad) {k0 : Nat} (hk0 : kReader kd k0) {MO : Mem} {vo : Unit}   : ∀ (fuel : Nat)  (M : Mem), mX4_takeNumber_l0 k0 fuel M = some (MO, vo) → At p l e (rmO 1 0 0) s m args below meth c 0 0 (MQ below (Qg G kd ad s.heap.size MO none) args s 0 0 (AS kd ad s.heap.size)) G kd ad 1 0 [(0, .ref (ad k0))] [] M := by
  intro fuel
  induction fuel with
  | zero => intro M hf; cases hf
  | succ n IH => exact tX4_takeNumber_b0 C hk0 IH
def mX4_takeNumber (k0 : Nat) (M : Mem) : Option (Mem × Unit) := mX4_takeNumber_l0 k0 5000 M
set_option maxHeartbeats 4000000 in
set_option maxRecDepth 100000 in
theorem tX4_takeNumber (l : Launch) {G : GT} {kd : Nat → Nat × Nat} {ad : Nat → Nat} {k0 : Nat} (hk0 : kReader kd k0) {M : Mem} {MO : Mem} {vo : Unit} (hf : mX4_takeNumber k0 M = some (MO, vo)) (n : Nat) : Met l yX4_takeNumber (Cond.code yX4_takeNumber cX4_takeNumber 1 none :: WA) (rmO 1 0 0) (Pg G kd ad n [.ref (ad k0)] M) (Qg G kd ad n MO none) 0 0 (AS kd ad n) := by
  refine g_body (own := RX4) (by decide) rfl ?_ (Nat.le_of_ble_eq_true rfl)
  intro p e s m args below meth c C _ H locs ls hI hl
  obtain ⟨hx, hb, hml, hr, hown, hts, hlk, hK, hap, hsx⟩ := id C
  have hl : lv_has ls 1 [(0, .ref (ad k0))] := hl
  unfold mX4_takeNumber at hf
  exact tX4_takeNumber_l0 C hk0 5000 M hf _ _ _ hI (lv_sub hl [0] rfl)
theorem cv_X4_takeNumber : cvF RX4 yX4_takeNumber cX4_takeNumber 1 none 0 := ⟨q_t5_133, q_s2_5, q_t1_2, q_t5_134, by decide +kernel⟩
def mX4_nextToken_b143 (k0 : Nat) (y1 : Int32) (M : Mem) : Option (Mem × Unit) := bnd (wr M k0 6 y1) (fun M24 => bnd (wr M24 k0 5 ((rd M24 k0 5) + (1 : Int32))) (fun M26 => some (M26, ())))
set_option maxHeartbeats 4000000 in
set_option maxRecDepth 100000 in
theorem tX4_nextToken_b143 {p : Program} {l : Launch} {e : Env} {s : State} {m : MethodId} {args : Array Value} {below : List Frame} {meth : Method} {c : Code} {G : GT} {kd : Nat → Nat × Nat} {ad : Nat → Nat} (C : Cx p s m args meth c cX4_nextToken 1 none RX4 G kd ad) {k0 : Nat} (hk0 : kReader kd k0) {MO : Mem} {vo : Unit}   : ∀ (y1 : Int32) (M : Mem), mX4_nextToken_b143 k0 y1 M = some (MO, vo) → At p l e (rmO 2 0 0) s m args below meth c 0 0 (MQ below (Qg G kd ad s.heap.size MO none) args s 0 0 (AS kd ad s.heap.size)) G kd ad 1 143 [(0, .ref (ad k0))] [.int y1, .ref (ad k0)] M := by
  intro y1 M hf H locs ls hI hl
  obtain ⟨hx, hb, hml, hr, hown, hts, hlk, hK, hap, hsx⟩ := id C
  unfold mX4_nextToken_b143 at hf
  obtain ⟨M24, e25, hf⟩ := bnd_s hf
  refine gp4_6 hx hb hts hown hK hap hI hk0.1 q_t1_51 (dc tbX4_nextToken_1_k 30 rfl) e25 (fun H locs hI => ?_)
  refine lv_aload_n hx hb (dc tbX4_nextToken_1_k 31 rfl) rfl (lv_at hl 0 rfl) ?_
  refine lv_dup hx hb (dc tbX4_nextToken_1_k 32 rfl) rfl ?_
  refine gg4_5 hx hb hts hown hK hI hk0.1 q_t1_50 (dc tbX4_nextToken_1_k 33 rfl) ?_
  refine lv_iconst (v := 1) hx hb (dc tbX4_nextToken_1_k 34 rfl) ic_1 ?_
  refine lv_iadd hx hb (dc tbX4_nextToken_1_k 35 rfl) ?_
  obtain ⟨M26, e27, hf⟩ := bnd_s hf
  refine gp4_5 hx hb hts hown hK hap hI hk0.1 q_t1_50 (dc tbX4_nextToken_1_k 36 rfl) e27 (fun H locs hI => ?_)
  cases hf
  exact g_vret hx hb hr hlk hI (dc tbX4_nextToken_1_k 37 rfl)
def mX4_nextToken_b47 (k0 : Nat) (M : Mem) : Option (Mem × Unit) := bnd (wr M k0 5 (rd M k0 4)) (fun M4 => bnd (wr M4 k0 7 (0 : Int32)) (fun M6 => ite2 ((rd M6 k0 4) < (rd M6 k0 3)) (chk (decide (rd M6 k0 2 = 1)) (chk (okb (rd M6 k0 4) 600) (cap (mX4_isLetter (rd M6 1 ((rd M6 k0 4)).toNatClampNeg) M6) (fun r12 => ite2 (r12 = 0) (chk (decide (rd M6 k0 2 = 1)) (chk (okb (rd M6 k0 4) 600) (cap (mX4_isDigit (rd M6 1 ((rd M6 k0 4)).toNatClampNeg) M6) (fun r18 => ite2 (r18 = 0) (chk (decide (rd M6 k0 2 = 1)) (chk (okb (rd M6 k0 4) 600) (ite2 ((rd M6 1 ((rd M6 k0 4)).toNatClampNeg) = (59 : Int32)) (mX4_nextToken_b143 k0 (4 : Int32) M6) (mX4_nextToken_b143 k0 (1 : Int32) M6)))) (cal (mX4_takeNumber k0 M6) (fun M30 _ => some (M30, ()))))))) (cal (mX4_takeWord k0 M6) (fun M33 _ => some (M33, ()))))))) (bnd (wr M6 k0 6 (0 : Int32)) (fun M34 => some (M34, ())))))
set_option maxHeartbeats 4000000 in
set_option maxRecDepth 100000 in
theorem tX4_nextToken_b47 {p : Program} {l : Launch} {e : Env} {s : State} {m : MethodId} {args : Array Value} {below : List Frame} {meth : Method} {c : Code} {G : GT} {kd : Nat → Nat × Nat} {ad : Nat → Nat} (C : Cx p s m args meth c cX4_nextToken 1 none RX4 G kd ad) {k0 : Nat} (hk0 : kReader kd k0) {MO : Mem} {vo : Unit}   : ∀  (M : Mem), mX4_nextToken_b47 k0 M = some (MO, vo) → At p l e (rmO 2 0 0) s m args below meth c 0 0 (MQ below (Qg G kd ad s.heap.size MO none) args s 0 0 (AS kd ad s.heap.size)) G kd ad 1 47 [(0, .ref (ad k0))] [] M := by
  intro M hf H locs ls hI hl
  obtain ⟨hx, hb, hml, hr, hown, hts, hlk, hK, hap, hsx⟩ := id C
  unfold mX4_nextToken_b47 at hf
  refine lv_aload_n hx hb (dc tbX4_nextToken_0_k 23 rfl) rfl (lv_at hl 0 rfl) ?_
  refine lv_aload_n hx hb (dc tbX4_nextToken_0_k 24 rfl) rfl (lv_at hl 0 rfl) ?_
  refine gg4_4 hx hb hts hown hK hI hk0.1 q_t1_49 (dc tbX4_nextToken_0_k 25 rfl) ?_
  obtain ⟨M4, e5, hf⟩ := bnd_s hf
  refine gp4_5 hx hb hts hown hK hap hI hk0.1 q_t1_50 (dc tbX4_nextToken_0_k 26 rfl) e5 (fun H locs hI => ?_)
  refine lv_aload_n hx hb (dc tbX4_nextToken_0_k 27 rfl) rfl (lv_at hl 0 rfl) ?_
  refine lv_iconst (v := 0) hx hb (dc tbX4_nextToken_0_k 28 rfl) ic_0 ?_
  obtain ⟨M6, e7, hf⟩ := bnd_s hf
  refine gp4_7 hx hb hts hown hK hap hI hk0.1 q_t1_52 (dc tbX4_nextToken_0_k 29 rfl) e7 (fun H locs hI => ?_)
  refine lv_aload_n hx hb (dc tbX4_nextToken_0_k 30 rfl) rfl (lv_at hl 0 rfl) ?_
  refine gg4_4 hx hb hts hown hK hI hk0.1 q_t1_49 (dc tbX4_nextToken_0_k 31 rfl) ?_
  refine lv_aload_n hx hb (dc tbX4_nextToken_0_k 32 rfl) rfl (lv_at hl 0 rfl) ?_
  refine gg4_3 hx hb hts hown hK hI hk0.1 q_t1_48 (dc tbX4_nextToken_0_k 33 rfl) ?_
  refine lv_icmp_lt (tgt := 79) hx hb (dc tbX4_nextToken_0_k 34 rfl) rfl (fun c8 => ?_) (fun c8 => ?_)
  · have hf := ite_t c8 hf
    refine lv_aload_n hx hb (dc tbX4_nextToken_0_k 39 rfl) rfl (lv_at hl 0 rfl) ?_
    obtain ⟨h9, hf⟩ := chk_s hf
    refine gg4_2 hx hb hts hown hK hI hk0.1 q_t1_47 (dc tbX4_nextToken_1_k 0 rfl) ?_
    rw [byt_b h9]
    refine lv_aload_n hx hb (dc tbX4_nextToken_1_k 1 rfl) rfl (lv_at hl 0 rfl) ?_
    refine gg4_4 hx hb hts hown hK hI hk0.1 q_t1_49 (dc tbX4_nextToken_1_k 2 rfl) ?_
    obtain ⟨h10, hf⟩ := chk_s hf
    refine g_bald hx hb hK hI hk0.2.2 (okb_in h10) (dc tbX4_nextToken_1_k 3 rfl) ?_
    obtain ⟨r12, q11, hf⟩ := cap_s hf
    refine g_callSi hx hb hml hown hts hK hap hsx hI (tX4_isLetter l  q11 H.size) cs_X4_isLetter q_t5_121 rfl rfl ⟨Nat.le_of_ble_eq_true rfl, Nat.le_of_ble_eq_true rfl⟩ rfl hl.1 rfl (Nat.le_of_ble_eq_true rfl) (dc tbX4_nextToken_1_k 4 rfl) ⟨Nat.le_of_ble_eq_true rfl, Nat.le_of_ble_eq_true rfl⟩ (fun H locs hI => ?_)
    refine lv_if_eq (tgt := 101) hx hb (dc tbX4_nextToken_1_k 5 rfl) rfl (fun c14 => ?_) (fun c14 => ?_)
    · have hf := ite_t c14 hf
      refine lv_aload_n hx hb (dc tbX4_nextToken_1_k 9 rfl) rfl (lv_at hl 0 rfl) ?_
      obtain ⟨h15, hf⟩ := chk_s hf
      refine gg4_2 hx hb hts hown hK hI hk0.1 q_t1_47 (dc tbX4_nextToken_1_k 10 rfl) ?_
      rw [byt_b h15]
      refine lv_aload_n hx hb (dc tbX4_nextToken_1_k 11 rfl) rfl (lv_at hl 0 rfl) ?_
      refine gg4_4 hx hb hts hown hK hI hk0.1 q_t1_49 (dc tbX4_nextToken_1_k 12 rfl) ?_
      obtain ⟨h16, hf⟩ := chk_s hf
      refine g_bald hx hb hK hI hk0.2.2 (okb_in h16) (dc tbX4_nextToken_1_k 13 rfl) ?_
      obtain ⟨r18, q17, hf⟩ := cap_s hf
      refine g_callSi hx hb hml hown hts hK hap hsx hI (tX4_isDigit l  q17 H.size) cs_X4_isDigit q_t5_128 rfl rfl ⟨Nat.le_of_ble_eq_true rfl, Nat.le_of_ble_eq_true rfl⟩ rfl hl.1 rfl (Nat.le_of_ble_eq_true rfl) (dc tbX4_nextToken_1_k 14 rfl) ⟨Nat.le_of_ble_eq_true rfl, Nat.le_of_ble_eq_true rfl⟩ (fun H locs hI => ?_)
      refine lv_if_eq (tgt := 123) hx hb (dc tbX4_nextToken_1_k 15 rfl) rfl (fun c20 => ?_) (fun c20 => ?_)
      · have hf := ite_t c20 hf
        refine lv_aload_n hx hb (dc tbX4_nextToken_1_k 19 rfl) rfl (lv_at hl 0 rfl) ?_
        refine lv_aload_n hx hb (dc tbX4_nextToken_1_k 20 rfl) rfl (lv_at hl 0 rfl) ?_
        obtain ⟨h21, hf⟩ := chk_s hf
        refine gg4_2 hx hb hts hown hK hI hk0.1 q_t1_47 (dc tbX4_nextToken_1_k 21 rfl) ?_
        rw [byt_b h21]
        refine lv_aload_n hx hb (dc tbX4_nextToken_1_k 22 rfl) rfl (lv_at hl 0 rfl) ?_
        refine gg4_4 hx hb hts hown hK hI hk0.1 q_t1_49 (dc tbX4_nextToken_1_k 23 rfl) ?_
        obtain ⟨h22, hf⟩ := chk_s hf
        refine g_bald hx hb hK hI hk0.2.2 (okb_in h22) (dc tbX4_nextToken_1_k 24 rfl) ?_
        refine lv_bipush (v := 59) hx hb (dc tbX4_nextToken_1_k 25 rfl) bp_59 ?_
        refine lv_icmp_ne (tgt := 142) hx hb (dc tbX4_nextToken_1_k 26 rfl) rfl (fun c23 => ?_) (fun c23 => ?_)
        · have hf := ite_f c23 hf
          refine lv_iconst (v := 1) hx hb (dc tbX4_nextToken_1_k 29 rfl) ic_1 ?_
          exact tX4_nextToken_b143 C hk0 (1 : Int32) M6 hf _ _ _ hI (lv_sub hl [0] rfl)
        · have hf := ite_t c23 hf
          refine lv_iconst (v := 4) hx hb (dc tbX4_nextToken_1_k 27 rfl) ic_4 ?_
          refine lv_goto (tgt := 143) hx hb (dc tbX4_nextToken_1_k 28 rfl) rfl ?_
          exact tX4_nextToken_b143 C hk0 (4 : Int32) M6 hf _ _ _ hI (lv_sub hl [0] rfl)
      · have hf := ite_f c20 hf
        refine lv_aload_n hx hb (dc tbX4_nextToken_1_k 16 rfl) rfl (lv_at hl 0 rfl) ?_
        obtain ⟨M30, r29, q28, hf⟩ := cal_s hf
        refine g_callVv hx hb hml hown hts hK hap hsx hI (tX4_takeNumber l hk0 q28 H.size) cv_X4_takeNumber q_t5_131 rfl rfl ⟨Nat.le_of_ble_eq_true rfl, Nat.le_of_ble_eq_true rfl⟩ hk0.1 (by simp) rfl rfl rfl hl.1 rfl (Nat.le_of_ble_eq_true rfl) (dc tbX4_nextToken_1_k 17 rfl) ⟨Nat.le_of_ble_eq_true rfl, Nat.le_of_ble_eq_true rfl⟩ (fun H locs hI => ?_)
        refine lv_goto (tgt := 156) hx hb (dc tbX4_nextToken_1_k 18 rfl) rfl ?_
        cases hf
        exact g_vret hx hb hr hlk hI (dc tbX4_nextToken_1_k 37 rfl)
    · have hf := ite_f c14 hf
      refine lv_aload_n hx hb (dc tbX4_nextToken_1_k 6 rfl) rfl (lv_at hl 0 rfl) ?_
      obtain ⟨M33, r32, q31, hf⟩ := cal_s hf
      refine g_callVv hx hb hml hown hts hK hap hsx hI (tX4_takeWord l hk0 q31 H.size) cv_X4_takeWord q_t5_124 rfl rfl ⟨Nat.le_of_ble_eq_true rfl, Nat.le_of_ble_eq_true rfl⟩ hk0.1 (by simp) rfl rfl rfl hl.1 rfl (Nat.le_of_ble_eq_true rfl) (dc tbX4_nextToken_1_k 7 rfl) ⟨Nat.le_of_ble_eq_true rfl, Nat.le_of_ble_eq_true rfl⟩ (fun H locs hI => ?_)
      refine lv_goto (tgt := 156) hx hb (dc tbX4_nextToken_1_k 8 rfl) rfl ?_
      cases hf
      exact g_vret hx hb hr hlk hI (dc tbX4_nextToken_1_k 37 rfl)
  · have hf := ite_f c8 hf
    refine lv_aload_n hx hb (dc tbX4_nextToken_0_k 35 rfl) rfl (lv_at hl 0 rfl) ?_
    refine lv_iconst (v := 0) hx hb (dc tbX4_nextToken_0_k 36 rfl) ic_0 ?_
    obtain ⟨M34, e35, hf⟩ := bnd_s hf
    refine gp4_6 hx hb hts hown hK hap hI hk0.1 q_t1_51 (dc tbX4_nextToken_0_k 37 rfl) e35 (fun H locs hI => ?_)
    refine lv_goto (tgt := 156) hx hb (dc tbX4_nextToken_0_k 38 rfl) rfl ?_
    cases hf
    exact g_vret hx hb hr hlk hI (dc tbX4_nextToken_1_k 37 rfl)
def mX4_nextToken_b8 (k0 : Nat) (ih8 : Mem → Option (Mem × Unit)) (M : Mem) : Option (Mem × Unit) := ite2 ((rd M k0 3) ≤ (rd M k0 4)) (mX4_nextToken_b47 k0 M) (chk (decide (rd M k0 2 = 1)) (chk (okb (rd M k0 4) 600) (cap (mX4_isSpace (rd M 1 ((rd M k0 4)).toNatClampNeg) M) (fun r39 => ite2 (r39 = 0) (mX4_nextToken_b47 k0 M) (bnd (wr M k0 4 ((rd M k0 4) + (1 : Int32))) (fun M42 => ih8 M42))))))
set_option maxHeartbeats 4000000 in
set_option maxRecDepth 100000 in
theorem tX4_nextToken_b8 {p : Program} {l : Launch} {e : Env} {s : State} {m : MethodId} {args : Array Value} {below : List Frame} {meth : Method} {c : Code} {G : GT} {kd : Nat → Nat × Nat} {ad : Nat → Nat} (C : Cx p s m args meth c cX4_nextToken 1 none RX4 G kd ad) {k0 : Nat} (hk0 : kReader kd k0) {MO : Mem} {vo : Unit} {ih8 : Mem → Option (Mem × Unit)} (hih8 : ∀  (M : Mem), ih8 M = some (MO, vo) → At p l e (rmO 2 0 0) s m args below meth c 0 0 (MQ below (Qg G kd ad s.heap.size MO none) args s 0 0 (AS kd ad s.heap.size)) G kd ad 1 8 [(0, .ref (ad k0))] [] M) : ∀  (M : Mem), mX4_nextToken_b8 k0 ih8 M = some (MO, vo) → At p l e (rmO 2 0 0) s m args below meth c 0 0 (MQ below (Qg G kd ad s.heap.size MO none) args s 0 0 (AS kd ad s.heap.size)) G kd ad 1 8 [(0, .ref (ad k0))] [] M := by
  intro M hf H locs ls hI hl
  obtain ⟨hx, hb, hml, hr, hown, hts, hlk, hK, hap, hsx⟩ := id C
  unfold mX4_nextToken_b8 at hf
  refine lv_aload_n hx hb (dc tbX4_nextToken_0_k 4 rfl) rfl (lv_at hl 0 rfl) ?_
  refine gg4_4 hx hb hts hown hK hI hk0.1 q_t1_49 (dc tbX4_nextToken_0_k 5 rfl) ?_
  refine lv_aload_n hx hb (dc tbX4_nextToken_0_k 6 rfl) rfl (lv_at hl 0 rfl) ?_
  refine gg4_3 hx hb hts hown hK hI hk0.1 q_t1_48 (dc tbX4_nextToken_0_k 7 rfl) ?_
  refine lv_icmp_ge (tgt := 47) hx hb (dc tbX4_nextToken_0_k 8 rfl) rfl (fun c3 => ?_) (fun c3 => ?_)
  · have hf := ite_t c3 hf
    exact tX4_nextToken_b47 C hk0 M hf _ _ _ hI (lv_sub hl [0] rfl)
  · have hf := ite_f c3 hf
    refine lv_aload_n hx hb (dc tbX4_nextToken_0_k 9 rfl) rfl (lv_at hl 0 rfl) ?_
    obtain ⟨h36, hf⟩ := chk_s hf
    refine gg4_2 hx hb hts hown hK hI hk0.1 q_t1_47 (dc tbX4_nextToken_0_k 10 rfl) ?_
    rw [byt_b h36]
    refine lv_aload_n hx hb (dc tbX4_nextToken_0_k 11 rfl) rfl (lv_at hl 0 rfl) ?_
    refine gg4_4 hx hb hts hown hK hI hk0.1 q_t1_49 (dc tbX4_nextToken_0_k 12 rfl) ?_
    obtain ⟨h37, hf⟩ := chk_s hf
    refine g_bald hx hb hK hI hk0.2.2 (okb_in h37) (dc tbX4_nextToken_0_k 13 rfl) ?_
    obtain ⟨r39, q38, hf⟩ := cap_s hf
    refine g_callSi hx hb hml hown hts hK hap hsx hI (tX4_isSpace l  q38 H.size) cs_X4_isSpace q_t5_118 rfl rfl ⟨Nat.le_of_ble_eq_true rfl, Nat.le_of_ble_eq_true rfl⟩ rfl hl.1 rfl (Nat.le_of_ble_eq_true rfl) (dc tbX4_nextToken_0_k 14 rfl) ⟨Nat.le_of_ble_eq_true rfl, Nat.le_of_ble_eq_true rfl⟩ (fun H locs hI => ?_)
    refine lv_if_eq (tgt := 47) hx hb (dc tbX4_nextToken_0_k 15 rfl) rfl (fun c41 => ?_) (fun c41 => ?_)
    · have hf := ite_t c41 hf
      exact tX4_nextToken_b47 C hk0 M hf _ _ _ hI (lv_sub hl [0] rfl)
    · have hf := ite_f c41 hf
      refine lv_aload_n hx hb (dc tbX4_nextToken_0_k 16 rfl) rfl (lv_at hl 0 rfl) ?_
      refine lv_dup hx hb (dc tbX4_nextToken_0_k 17 rfl) rfl ?_
      refine gg4_4 hx hb hts hown hK hI hk0.1 q_t1_49 (dc tbX4_nextToken_0_k 18 rfl) ?_
      refine lv_iconst (v := 1) hx hb (dc tbX4_nextToken_0_k 19 rfl) ic_1 ?_
      refine lv_iadd hx hb (dc tbX4_nextToken_0_k 20 rfl) ?_
      obtain ⟨M42, e43, hf⟩ := bnd_s hf
      refine gp4_4 hx hb hts hown hK hap hI hk0.1 q_t1_49 (dc tbX4_nextToken_0_k 21 rfl) e43 (fun H locs hI => ?_)
      refine lv_goto (tgt := 8) hx hb (dc tbX4_nextToken_0_k 22 rfl) rfl ?_
      exact hih8 M42 hf _ _ _ hI (lv_sub hl [0] rfl)
def mX4_nextToken_l8 (k0 : Nat) : Nat → Mem → Option (Mem × Unit)
  | 0 => fun  _ => none
  | n + 1 => mX4_nextToken_b8 k0 (mX4_nextToken_l8 k0 n)
theorem tX4_nextToken_l8 {p : Program} {l : Launch} {e : Env} {s : State} {m : MethodId} {args : Array Value} {below : List Frame} {meth : Method} {c : Code} {G : GT} {kd : Nat → Nat × Nat} {ad : Nat → Nat} (C : Cx p s m args meth c cX4_nextToken 1 none RX4 G kd ad) {k0 : Nat} (hk0 : kReader kd k0) {MO : Mem} {vo : Unit}   : ∀ (fuel : Nat)  (M : Mem), mX4_nextToken_l8 k0 fuel M = some (MO, vo) → At p l e (rmO 2 0 0) s m args below meth c 0 0 (MQ below (Qg G kd ad s.heap.size MO none) args s 0 0 (AS kd ad s.heap.size)) G kd ad 1 8 [(0, .ref (ad k0))] [] M := by
  intro fuel
  induction fuel with
  | zero => intro M hf; cases hf
  | succ n IH => exact tX4_nextToken_b8 C hk0 IH
def mX4_nextToken (k0 : Nat) (M : Mem) : Option (Mem × Unit) := bnd (wr M k0 4 (rd M k0 5)) (fun M1 => mX4_nextToken_l8 k0 5000 M1)
set_option maxHeartbeats 4000000 in
set_option maxRecDepth 100000 in
theorem tX4_nextToken (l : Launch) {G : GT} {kd : Nat → Nat × Nat} {ad : Nat → Nat} {k0 : Nat} (hk0 : kReader kd k0) {M : Mem} {MO : Mem} {vo : Unit} (hf : mX4_nextToken k0 M = some (MO, vo)) (n : Nat) : Met l yX4_nextToken (Cond.code yX4_nextToken cX4_nextToken 1 none :: WA) (rmO 2 0 0) (Pg G kd ad n [.ref (ad k0)] M) (Qg G kd ad n MO none) 0 0 (AS kd ad n) := by
  refine g_body (own := RX4) (by decide) rfl ?_ (Nat.le_of_ble_eq_true rfl)
  intro p e s m args below meth c C _ H locs ls hI hl
  obtain ⟨hx, hb, hml, hr, hown, hts, hlk, hK, hap, hsx⟩ := id C
  have hl : lv_has ls 1 [(0, .ref (ad k0))] := hl
  unfold mX4_nextToken at hf
  refine lv_aload_n hx hb (dc tbX4_nextToken_0_k 0 rfl) rfl (lv_at hl 0 rfl) ?_
  refine lv_aload_n hx hb (dc tbX4_nextToken_0_k 1 rfl) rfl (lv_at hl 0 rfl) ?_
  refine gg4_5 hx hb hts hown hK hI hk0.1 q_t1_50 (dc tbX4_nextToken_0_k 2 rfl) ?_
  obtain ⟨M1, e2, hf⟩ := bnd_s hf
  refine gp4_4 hx hb hts hown hK hap hI hk0.1 q_t1_49 (dc tbX4_nextToken_0_k 3 rfl) e2 (fun H locs hI => ?_)
  exact tX4_nextToken_l8 C hk0 5000 M1 hf _ _ _ hI (lv_sub hl [0] rfl)
theorem cv_X4_nextToken : cvF RX4 yX4_nextToken cX4_nextToken 1 none 0 := ⟨q_t5_116, q_s2_3, q_t1_2, q_t5_117, by decide +kernel⟩
def mX4_errorIfNot (k0 : Nat) (x1 : Int32) (x2 : Int32) (M : Mem) : Option Int32 := ite2 ((rd M k0 6) = (1 : Int32)) (some (1 : Int32)) (ite2 ((rd M k0 6) = x1) (some x2) (some (2 : Int32)))
set_option maxHeartbeats 4000000 in
set_option maxRecDepth 100000 in
theorem tX4_errorIfNot (l : Launch) {G : GT} {kd : Nat → Nat × Nat} {ad : Nat → Nat} {k0 : Nat} (hk0 : kReader kd k0) {x1 : Int32} {x2 : Int32} {M : Mem} {vo : Int32} (hf : mX4_errorIfNot k0 x1 x2 M = some vo) (n : Nat) : Met l yX4_errorIfNot (Cond.code yX4_errorIfNot cX4_errorIfNot 3 (some .int) :: WA) (rmO 0 0 0) (Pg G kd ad n [.ref (ad k0), .int x1, .int x2] M) (Qg G kd ad n M (some (.int vo))) 0 0 (AS kd ad n) := by
  refine g_body (own := RX4) (by decide) rfl ?_ (Nat.le_of_ble_eq_true rfl)
  intro p e s m args below meth c C _ H locs ls hI hl
  obtain ⟨hx, hb, hml, hr, hown, hts, hlk, hK, hap, hsx⟩ := id C
  have hl : lv_has ls 3 [(0, .ref (ad k0)), (1, .int x1), (2, .int x2)] := hl
  unfold mX4_errorIfNot at hf
  refine lv_aload_n hx hb (dc tbX4_errorIfNot_k 0 rfl) rfl (lv_at hl 0 rfl) ?_
  refine gg4_6 hx hb hts hown hK hI hk0.1 q_t1_51 (dc tbX4_errorIfNot_k 1 rfl) ?_
  refine lv_iconst (v := 1) hx hb (dc tbX4_errorIfNot_k 2 rfl) ic_1 ?_
  refine lv_icmp_ne (tgt := 10) hx hb (dc tbX4_errorIfNot_k 3 rfl) rfl (fun c1 => ?_) (fun c1 => ?_)
  · have hf := ite_f c1 hf
    refine lv_aload_n hx hb (dc tbX4_errorIfNot_k 6 rfl) rfl (lv_at hl 0 rfl) ?_
    refine gg4_6 hx hb hts hown hK hI hk0.1 q_t1_51 (dc tbX4_errorIfNot_k 7 rfl) ?_
    refine lv_iload_n hx hb (dc tbX4_errorIfNot_k 8 rfl) rfl (lv_at hl 1 rfl) ?_
    refine lv_icmp_eq (tgt := 22) hx hb (dc tbX4_errorIfNot_k 9 rfl) rfl (fun c2 => ?_) (fun c2 => ?_)
    · have hf := ite_t c2 hf
      refine lv_iload_n hx hb (dc tbX4_errorIfNot_k 12 rfl) rfl (lv_at hl 2 rfl) ?_
      cases hf
      exact g_iret hx hb hr hlk hI (dc tbX4_errorIfNot_k 13 rfl)
    · have hf := ite_f c2 hf
      refine lv_iconst (v := 2) hx hb (dc tbX4_errorIfNot_k 10 rfl) ic_2 ?_
      refine lv_goto (tgt := 23) hx hb (dc tbX4_errorIfNot_k 11 rfl) rfl ?_
      cases hf
      exact g_iret hx hb hr hlk hI (dc tbX4_errorIfNot_k 13 rfl)
  · have hf := ite_t c1 hf
    refine lv_iconst (v := 1) hx hb (dc tbX4_errorIfNot_k 4 rfl) ic_1 ?_
    cases hf
    exact g_iret hx hb hr hlk hI (dc tbX4_errorIfNot_k 5 rfl)
theorem cv_X4_errorIfNot : cvF RX4 yX4_errorIfNot cX4_errorIfNot 3 (some .int) 2 := ⟨q_t5_167, q_s2_8, q_t1_2, q_t5_168, by decide +kernel⟩
def mX4_errorOfWord_b106 (k0 : Nat) (k1 : Nat) (M : Mem) : Option Int32 := some (5 : Int32)
set_option maxHeartbeats 4000000 in
set_option maxRecDepth 100000 in
theorem tX4_errorOfWord_b106 {p : Program} {l : Launch} {e : Env} {s : State} {m : MethodId} {args : Array Value} {below : List Frame} {meth : Method} {c : Code} {G : GT} {kd : Nat → Nat × Nat} {ad : Nat → Nat} (C : Cx p s m args meth c cX4_errorOfWord 6 (some .int) RX4 G kd ad) {k0 : Nat} {k1 : Nat} (hk0 : k0 < 11) (hk1 : kPart kd k1) {M : Mem} {vo : Int32}   : mX4_errorOfWord_b106 k0 k1 M = some vo → At p l e (rmO 1 0 0) s m args below meth c 0 0 (MQ below (Qg G kd ad s.heap.size M (some (.int vo))) args s 0 0 (AS kd ad s.heap.size)) G kd ad 6 106 [] [] M := by
  intro hf H locs ls hI hl
  obtain ⟨hx, hb, hml, hr, hown, hts, hlk, hK, hap, hsx⟩ := id C
  unfold mX4_errorOfWord_b106 at hf
  refine lv_iconst (v := 5) hx hb (dc tbX4_errorOfWord_1_k 12 rfl) ic_5 ?_
  refine lv_goto (tgt := 111) hx hb (dc tbX4_errorOfWord_1_k 13 rfl) rfl ?_
  cases hf
  exact g_iret hx hb hr hlk hI (dc tbX4_errorOfWord_1_k 15 rfl)
def mX4_errorOfWord_b94 (k0 : Nat) (k1 : Nat) (M : Mem) (x4 : Int32) (y0 : Int32) : Option Int32 := ite2 (x4 = 0) (ite2 (y0 = 0) (some (0 : Int32)) (mX4_errorOfWord_b106 k0 k1 M)) (mX4_errorOfWord_b106 k0 k1 M)
set_option maxHeartbeats 4000000 in
set_option maxRecDepth 100000 in
theorem tX4_errorOfWord_b94 {p : Program} {l : Launch} {e : Env} {s : State} {m : MethodId} {args : Array Value} {below : List Frame} {meth : Method} {c : Code} {G : GT} {kd : Nat → Nat × Nat} {ad : Nat → Nat} (C : Cx p s m args meth c cX4_errorOfWord 6 (some .int) RX4 G kd ad) {k0 : Nat} {k1 : Nat} (hk0 : k0 < 11) (hk1 : kPart kd k1) {M : Mem} {vo : Int32}   : ∀ (x4 : Int32) (y0 : Int32), mX4_errorOfWord_b94 k0 k1 M x4 y0 = some vo → At p l e (rmO 1 0 0) s m args below meth c 0 0 (MQ below (Qg G kd ad s.heap.size M (some (.int vo))) args s 0 0 (AS kd ad s.heap.size)) G kd ad 6 94 [(4, .int x4)] [.int y0] M := by
  intro x4 y0 hf H locs ls hI hl
  obtain ⟨hx, hb, hml, hr, hown, hts, hlk, hK, hap, hsx⟩ := id C
  unfold mX4_errorOfWord_b94 at hf
  refine lv_istore (lv' := [(5, .int y0), (4, .int x4)]) hx hb (dc tbX4_errorOfWord_1_k 7 rfl) hl (by decide) rfl (fun ls hl => ?_)
  refine lv_iload hx hb (dc tbX4_errorOfWord_1_k 8 rfl) (lv_at hl 1 rfl) ?_
  refine lv_if_ne (tgt := 106) hx hb (dc tbX4_errorOfWord_1_k 9 rfl) rfl (fun c13 => ?_) (fun c13 => ?_)
  · have hf := ite_f c13 hf
    exact tX4_errorOfWord_b106 C hk0 hk1 hf _ _ _ hI (lv_sub hl [] rfl)
  · have hf := ite_t c13 hf
    refine lv_iload hx hb (dc tbX4_errorOfWord_1_k 10 rfl) (lv_at hl 0 rfl) ?_
    refine lv_if_eq (tgt := 110) hx hb (dc tbX4_errorOfWord_1_k 11 rfl) rfl (fun c14 => ?_) (fun c14 => ?_)
    · have hf := ite_t c14 hf
      refine lv_iconst (v := 0) hx hb (dc tbX4_errorOfWord_1_k 14 rfl) ic_0 ?_
      cases hf
      exact g_iret hx hb hr hlk hI (dc tbX4_errorOfWord_1_k 15 rfl)
    · have hf := ite_f c14 hf
      exact tX4_errorOfWord_b106 C hk0 hk1 hf _ _ _ hI (lv_sub hl [] rfl)
def mX4_errorOfWord_b93 (k0 : Nat) (k1 : Nat) (M : Mem) (x4 : Int32) : Option Int32 := mX4_errorOfWord_b94 k0 k1 M x4 (0 : Int32)
set_option maxHeartbeats 4000000 in
set_option maxRecDepth 100000 in
theorem tX4_errorOfWord_b93 {p : Program} {l : Launch} {e : Env} {s : State} {m : MethodId} {args : Array Value} {below : List Frame} {meth : Method} {c : Code} {G : GT} {kd : Nat → Nat × Nat} {ad : Nat → Nat} (C : Cx p s m args meth c cX4_errorOfWord 6 (some .int) RX4 G kd ad) {k0 : Nat} {k1 : Nat} (hk0 : k0 < 11) (hk1 : kPart kd k1) {M : Mem} {vo : Int32}   : ∀ (x4 : Int32), mX4_errorOfWord_b93 k0 k1 M x4 = some vo → At p l e (rmO 1 0 0) s m args below meth c 0 0 (MQ below (Qg G kd ad s.heap.size M (some (.int vo))) args s 0 0 (AS kd ad s.heap.size)) G kd ad 6 93 [(4, .int x4)] [] M := by
  intro x4 hf H locs ls hI hl
  obtain ⟨hx, hb, hml, hr, hown, hts, hlk, hK, hap, hsx⟩ := id C
  unfold mX4_errorOfWord_b93 at hf
  refine lv_iconst (v := 0) hx hb (dc tbX4_errorOfWord_1_k 6 rfl) ic_0 ?_
  exact tX4_errorOfWord_b94 C hk0 hk1 x4 (0 : Int32) hf _ _ _ hI (lv_sub hl [0] rfl)
def mX4_errorOfWord_b71 (k0 : Nat) (k1 : Nat) (M : Mem) (y0 : Int32) : Option Int32 := ite2 (k0 = 4) (ite2 ((rd M k1 10) < (8 : Int32)) (mX4_errorOfWord_b93 k0 k1 M y0) (mX4_errorOfWord_b94 k0 k1 M y0 (1 : Int32))) (mX4_errorOfWord_b93 k0 k1 M y0)
set_option maxHeartbeats 4000000 in
set_option maxRecDepth 100000 in
theorem tX4_errorOfWord_b71 {p : Program} {l : Launch} {e : Env} {s : State} {m : MethodId} {args : Array Value} {below : List Frame} {meth : Method} {c : Code} {G : GT} {kd : Nat → Nat × Nat} {ad : Nat → Nat} (C : Cx p s m args meth c cX4_errorOfWord 6 (some .int) RX4 G kd ad) {k0 : Nat} {k1 : Nat} (hk0 : k0 < 11) (hk1 : kPart kd k1) {M : Mem} {vo : Int32}   : ∀ (y0 : Int32), mX4_errorOfWord_b71 k0 k1 M y0 = some vo → At p l e (rmO 1 0 0) s m args below meth c 0 0 (MQ below (Qg G kd ad s.heap.size M (some (.int vo))) args s 0 0 (AS kd ad s.heap.size)) G kd ad 6 71 [(0, .ref (G.2.2 k0)), (1, .ref (ad k1))] [.int y0] M := by
  intro y0 hf H locs ls hI hl
  obtain ⟨hx, hb, hml, hr, hown, hts, hlk, hK, hap, hsx⟩ := id C
  unfold mX4_errorOfWord_b71 at hf
  refine lv_istore (lv' := [(4, .int y0), (0, .ref (G.2.2 k0)), (1, .ref (ad k1))]) hx hb (dc tbX4_errorOfWord_0_k 36 rfl) hl (by decide) rfl (fun ls hl => ?_)
  refine lv_aload_n hx hb (dc tbX4_errorOfWord_0_k 37 rfl) rfl (lv_at hl 1 rfl) ?_
  refine g_gsW 4 (by decide) hx hb hown hts hsx hI q_t5_183 (dc tbX4_errorOfWord_0_k 38 rfl) ?_
  refine g_wne (tgt := 93) hx hb hsx hk0 (by decide) (dc tbX4_errorOfWord_0_k 39 rfl) rfl (fun c12 => ?_) (fun c12 => ?_)
  · have hf := ite_f c12 hf
    exact tX4_errorOfWord_b93 C hk0 hk1 y0 hf _ _ _ hI (lv_sub hl [0] rfl)
  · have hf := ite_t c12 hf
    refine lv_aload_n hx hb (dc tbX4_errorOfWord_1_k 0 rfl) rfl (lv_at hl 2 rfl) ?_
    refine gg1_10 hx hb hts hown hK hI hk1.1 q_t1_123 (dc tbX4_errorOfWord_1_k 1 rfl) ?_
    refine lv_bipush (v := 8) hx hb (dc tbX4_errorOfWord_1_k 2 rfl) bp_8 ?_
    refine lv_icmp_lt (tgt := 93) hx hb (dc tbX4_errorOfWord_1_k 3 rfl) rfl (fun c15 => ?_) (fun c15 => ?_)
    · have hf := ite_t c15 hf
      exact tX4_errorOfWord_b93 C hk0 hk1 y0 hf _ _ _ hI (lv_sub hl [0] rfl)
    · have hf := ite_f c15 hf
      refine lv_iconst (v := 1) hx hb (dc tbX4_errorOfWord_1_k 4 rfl) ic_1 ?_
      refine lv_goto (tgt := 94) hx hb (dc tbX4_errorOfWord_1_k 5 rfl) rfl ?_
      exact tX4_errorOfWord_b94 C hk0 hk1 y0 (1 : Int32) hf _ _ _ hI (lv_sub hl [0] rfl)
def mX4_errorOfWord_b70 (k0 : Nat) (k1 : Nat) (M : Mem) : Option Int32 := mX4_errorOfWord_b71 k0 k1 M (0 : Int32)
set_option maxHeartbeats 4000000 in
set_option maxRecDepth 100000 in
theorem tX4_errorOfWord_b70 {p : Program} {l : Launch} {e : Env} {s : State} {m : MethodId} {args : Array Value} {below : List Frame} {meth : Method} {c : Code} {G : GT} {kd : Nat → Nat × Nat} {ad : Nat → Nat} (C : Cx p s m args meth c cX4_errorOfWord 6 (some .int) RX4 G kd ad) {k0 : Nat} {k1 : Nat} (hk0 : k0 < 11) (hk1 : kPart kd k1) {M : Mem} {vo : Int32}   : mX4_errorOfWord_b70 k0 k1 M = some vo → At p l e (rmO 1 0 0) s m args below meth c 0 0 (MQ below (Qg G kd ad s.heap.size M (some (.int vo))) args s 0 0 (AS kd ad s.heap.size)) G kd ad 6 70 [(0, .ref (G.2.2 k0)), (1, .ref (ad k1))] [] M := by
  intro hf H locs ls hI hl
  obtain ⟨hx, hb, hml, hr, hown, hts, hlk, hK, hap, hsx⟩ := id C
  unfold mX4_errorOfWord_b70 at hf
  refine lv_iconst (v := 0) hx hb (dc tbX4_errorOfWord_0_k 35 rfl) ic_0 ?_
  exact tX4_errorOfWord_b71 C hk0 hk1 (0 : Int32) hf _ _ _ hI (lv_sub hl [0, 1] rfl)
def mX4_errorOfWord_b39 (k0 : Nat) (k1 : Nat) (M : Mem) (x2 : Int32) (y0 : Int32) : Option Int32 := ite2 (x2 = 0) (ite2 (y0 = 0) (cap (mX5_isBend k0 M) (fun r9 => ite2 (r9 = 0) (mX4_errorOfWord_b70 k0 k1 M) (cap (mX1_bendCount k1 M) (fun r17 => ite2 (r17 < (8 : Int32)) (mX4_errorOfWord_b70 k0 k1 M) (mX4_errorOfWord_b71 k0 k1 M (1 : Int32)))))) (some (4 : Int32))) (some (4 : Int32))
set_option maxHeartbeats 4000000 in
set_option maxRecDepth 100000 in
theorem tX4_errorOfWord_b39 {p : Program} {l : Launch} {e : Env} {s : State} {m : MethodId} {args : Array Value} {below : List Frame} {meth : Method} {c : Code} {G : GT} {kd : Nat → Nat × Nat} {ad : Nat → Nat} (C : Cx p s m args meth c cX4_errorOfWord 6 (some .int) RX4 G kd ad) {k0 : Nat} {k1 : Nat} (hk0 : k0 < 11) (hk1 : kPart kd k1) {M : Mem} {vo : Int32}   : ∀ (x2 : Int32) (y0 : Int32), mX4_errorOfWord_b39 k0 k1 M x2 y0 = some vo → At p l e (rmO 1 0 0) s m args below meth c 0 0 (MQ below (Qg G kd ad s.heap.size M (some (.int vo))) args s 0 0 (AS kd ad s.heap.size)) G kd ad 6 39 [(0, .ref (G.2.2 k0)), (1, .ref (ad k1)), (2, .int x2)] [.int y0] M := by
  intro x2 y0 hf H locs ls hI hl
  obtain ⟨hx, hb, hml, hr, hown, hts, hlk, hK, hap, hsx⟩ := id C
  unfold mX4_errorOfWord_b39 at hf
  refine lv_istore_n (lv' := [(3, .int y0), (0, .ref (G.2.2 k0)), (1, .ref (ad k1)), (2, .int x2)]) hx hb (dc tbX4_errorOfWord_0_k 19 rfl) rfl hl (by decide) rfl (fun ls hl => ?_)
  refine lv_iload_n hx hb (dc tbX4_errorOfWord_0_k 20 rfl) rfl (lv_at hl 3 rfl) ?_
  refine lv_if_ne (tgt := 48) hx hb (dc tbX4_errorOfWord_0_k 21 rfl) rfl (fun c6 => ?_) (fun c6 => ?_)
  · have hf := ite_f c6 hf
    refine lv_iconst (v := 4) hx hb (dc tbX4_errorOfWord_0_k 24 rfl) ic_4 ?_
    cases hf
    exact g_iret hx hb hr hlk hI (dc tbX4_errorOfWord_0_k 25 rfl)
  · have hf := ite_t c6 hf
    refine lv_iload_n hx hb (dc tbX4_errorOfWord_0_k 22 rfl) rfl (lv_at hl 0 rfl) ?_
    refine lv_if_eq (tgt := 50) hx hb (dc tbX4_errorOfWord_0_k 23 rfl) rfl (fun c7 => ?_) (fun c7 => ?_)
    · have hf := ite_t c7 hf
      refine lv_aload_n hx hb (dc tbX4_errorOfWord_0_k 26 rfl) rfl (lv_at hl 1 rfl) ?_
      obtain ⟨r9, q8, hf⟩ := cap_s hf
      refine g_callWi hx hb hml hown hts hK hap hsx hI (tX5_isBend l hk0 q8 H.size) cv_X5_isBend q_t5_174 rfl rfl ⟨Nat.le_of_ble_eq_true rfl, Nat.le_of_ble_eq_true rfl⟩ hk0 rfl hl.1 rfl (Nat.le_of_ble_eq_true rfl) (dc tbX4_errorOfWord_0_k 27 rfl) ⟨Nat.le_of_ble_eq_true rfl, Nat.le_of_ble_eq_true rfl⟩ (fun H locs hI => ?_)
      refine lv_if_eq (tgt := 70) hx hb (dc tbX4_errorOfWord_0_k 28 rfl) rfl (fun c11 => ?_) (fun c11 => ?_)
      · have hf := ite_t c11 hf
        exact tX4_errorOfWord_b70 C hk0 hk1 hf _ _ _ hI (lv_sub hl [1, 2] rfl)
      · have hf := ite_f c11 hf
        refine lv_aload_n hx hb (dc tbX4_errorOfWord_0_k 29 rfl) rfl (lv_at hl 2 rfl) ?_
        obtain ⟨r17, q16, hf⟩ := cap_s hf
        refine g_callVi hx hb hml hown hts hK hap hsx hI (tX1_bendCount l hk1 q16 H.size) cv_X1_bendCount q_t5_182 rfl rfl ⟨Nat.le_of_ble_eq_true rfl, Nat.le_of_ble_eq_true rfl⟩ hk1.1 (by simp) rfl rfl rfl hl.1 rfl (Nat.le_of_ble_eq_true rfl) (dc tbX4_errorOfWord_0_k 30 rfl) ⟨Nat.le_of_ble_eq_true rfl, Nat.le_of_ble_eq_true rfl⟩ (fun H locs hI => ?_)
        refine lv_bipush (v := 8) hx hb (dc tbX4_errorOfWord_0_k 31 rfl) bp_8 ?_
        refine lv_icmp_lt (tgt := 70) hx hb (dc tbX4_errorOfWord_0_k 32 rfl) rfl (fun c19 => ?_) (fun c19 => ?_)
        · have hf := ite_t c19 hf
          exact tX4_errorOfWord_b70 C hk0 hk1 hf _ _ _ hI (lv_sub hl [1, 2] rfl)
        · have hf := ite_f c19 hf
          refine lv_iconst (v := 1) hx hb (dc tbX4_errorOfWord_0_k 33 rfl) ic_1 ?_
          refine lv_goto (tgt := 71) hx hb (dc tbX4_errorOfWord_0_k 34 rfl) rfl ?_
          exact tX4_errorOfWord_b71 C hk0 hk1 (1 : Int32) hf _ _ _ hI (lv_sub hl [1, 2] rfl)
    · have hf := ite_f c7 hf
      refine lv_iconst (v := 4) hx hb (dc tbX4_errorOfWord_0_k 24 rfl) ic_4 ?_
      cases hf
      exact g_iret hx hb hr hlk hI (dc tbX4_errorOfWord_0_k 25 rfl)
def mX4_errorOfWord_b38 (k0 : Nat) (k1 : Nat) (M : Mem) (x2 : Int32) : Option Int32 := mX4_errorOfWord_b39 k0 k1 M x2 (0 : Int32)
set_option maxHeartbeats 4000000 in
set_option maxRecDepth 100000 in
theorem tX4_errorOfWord_b38 {p : Program} {l : Launch} {e : Env} {s : State} {m : MethodId} {args : Array Value} {below : List Frame} {meth : Method} {c : Code} {G : GT} {kd : Nat → Nat × Nat} {ad : Nat → Nat} (C : Cx p s m args meth c cX4_errorOfWord 6 (some .int) RX4 G kd ad) {k0 : Nat} {k1 : Nat} (hk0 : k0 < 11) (hk1 : kPart kd k1) {M : Mem} {vo : Int32}   : ∀ (x2 : Int32), mX4_errorOfWord_b38 k0 k1 M x2 = some vo → At p l e (rmO 1 0 0) s m args below meth c 0 0 (MQ below (Qg G kd ad s.heap.size M (some (.int vo))) args s 0 0 (AS kd ad s.heap.size)) G kd ad 6 38 [(0, .ref (G.2.2 k0)), (1, .ref (ad k1)), (2, .int x2)] [] M := by
  intro x2 hf H locs ls hI hl
  obtain ⟨hx, hb, hml, hr, hown, hts, hlk, hK, hap, hsx⟩ := id C
  unfold mX4_errorOfWord_b38 at hf
  refine lv_iconst (v := 0) hx hb (dc tbX4_errorOfWord_0_k 18 rfl) ic_0 ?_
  exact tX4_errorOfWord_b39 C hk0 hk1 x2 (0 : Int32) hf _ _ _ hI (lv_sub hl [0, 1, 2] rfl)
def mX4_errorOfWord_b19 (k0 : Nat) (k1 : Nat) (M : Mem) (y0 : Int32) : Option Int32 := cap (mX5_isBend k0 M) (fun r3 => ite2 (r3 = 0) (mX4_errorOfWord_b38 k0 k1 M y0) (ite2 ((rd M k1 0) = 0) (mX4_errorOfWord_b39 k0 k1 M y0 (1 : Int32)) (mX4_errorOfWord_b38 k0 k1 M y0)))
set_option maxHeartbeats 4000000 in
set_option maxRecDepth 100000 in
theorem tX4_errorOfWord_b19 {p : Program} {l : Launch} {e : Env} {s : State} {m : MethodId} {args : Array Value} {below : List Frame} {meth : Method} {c : Code} {G : GT} {kd : Nat → Nat × Nat} {ad : Nat → Nat} (C : Cx p s m args meth c cX4_errorOfWord 6 (some .int) RX4 G kd ad) {k0 : Nat} {k1 : Nat} (hk0 : k0 < 11) (hk1 : kPart kd k1) {M : Mem} {vo : Int32}   : ∀ (y0 : Int32), mX4_errorOfWord_b19 k0 k1 M y0 = some vo → At p l e (rmO 1 0 0) s m args below meth c 0 0 (MQ below (Qg G kd ad s.heap.size M (some (.int vo))) args s 0 0 (AS kd ad s.heap.size)) G kd ad 6 19 [(0, .ref (G.2.2 k0)), (1, .ref (ad k1))] [.int y0] M := by
  intro y0 hf H locs ls hI hl
  obtain ⟨hx, hb, hml, hr, hown, hts, hlk, hK, hap, hsx⟩ := id C
  unfold mX4_errorOfWord_b19 at hf
  refine lv_istore_n (lv' := [(2, .int y0), (0, .ref (G.2.2 k0)), (1, .ref (ad k1))]) hx hb (dc tbX4_errorOfWord_0_k 9 rfl) rfl hl (by decide) rfl (fun ls hl => ?_)
  refine lv_aload_n hx hb (dc tbX4_errorOfWord_0_k 10 rfl) rfl (lv_at hl 1 rfl) ?_
  obtain ⟨r3, q2, hf⟩ := cap_s hf
  refine g_callWi hx hb hml hown hts hK hap hsx hI (tX5_isBend l hk0 q2 H.size) cv_X5_isBend q_t5_174 rfl rfl ⟨Nat.le_of_ble_eq_true rfl, Nat.le_of_ble_eq_true rfl⟩ hk0 rfl hl.1 rfl (Nat.le_of_ble_eq_true rfl) (dc tbX4_errorOfWord_0_k 11 rfl) ⟨Nat.le_of_ble_eq_true rfl, Nat.le_of_ble_eq_true rfl⟩ (fun H locs hI => ?_)
  refine lv_if_eq (tgt := 38) hx hb (dc tbX4_errorOfWord_0_k 12 rfl) rfl (fun c5 => ?_) (fun c5 => ?_)
  · have hf := ite_t c5 hf
    exact tX4_errorOfWord_b38 C hk0 hk1 y0 hf _ _ _ hI (lv_sub hl [1, 2, 0] rfl)
  · have hf := ite_f c5 hf
    refine lv_aload_n hx hb (dc tbX4_errorOfWord_0_k 13 rfl) rfl (lv_at hl 2 rfl) ?_
    refine gg1_0 hx hb hts hown hK hI hk1.1 q_t1_103 (dc tbX4_errorOfWord_0_k 14 rfl) ?_
    refine lv_if_ne (tgt := 38) hx hb (dc tbX4_errorOfWord_0_k 15 rfl) rfl (fun c20 => ?_) (fun c20 => ?_)
    · have hf := ite_f c20 hf
      exact tX4_errorOfWord_b38 C hk0 hk1 y0 hf _ _ _ hI (lv_sub hl [1, 2, 0] rfl)
    · have hf := ite_t c20 hf
      refine lv_iconst (v := 1) hx hb (dc tbX4_errorOfWord_0_k 16 rfl) ic_1 ?_
      refine lv_goto (tgt := 39) hx hb (dc tbX4_errorOfWord_0_k 17 rfl) rfl ?_
      exact tX4_errorOfWord_b39 C hk0 hk1 y0 (1 : Int32) hf _ _ _ hI (lv_sub hl [1, 2, 0] rfl)
def mX4_errorOfWord_b18 (k0 : Nat) (k1 : Nat) (M : Mem) : Option Int32 := mX4_errorOfWord_b19 k0 k1 M (0 : Int32)
set_option maxHeartbeats 4000000 in
set_option maxRecDepth 100000 in
theorem tX4_errorOfWord_b18 {p : Program} {l : Launch} {e : Env} {s : State} {m : MethodId} {args : Array Value} {below : List Frame} {meth : Method} {c : Code} {G : GT} {kd : Nat → Nat × Nat} {ad : Nat → Nat} (C : Cx p s m args meth c cX4_errorOfWord 6 (some .int) RX4 G kd ad) {k0 : Nat} {k1 : Nat} (hk0 : k0 < 11) (hk1 : kPart kd k1) {M : Mem} {vo : Int32}   : mX4_errorOfWord_b18 k0 k1 M = some vo → At p l e (rmO 1 0 0) s m args below meth c 0 0 (MQ below (Qg G kd ad s.heap.size M (some (.int vo))) args s 0 0 (AS kd ad s.heap.size)) G kd ad 6 18 [(0, .ref (G.2.2 k0)), (1, .ref (ad k1))] [] M := by
  intro hf H locs ls hI hl
  obtain ⟨hx, hb, hml, hr, hown, hts, hlk, hK, hap, hsx⟩ := id C
  unfold mX4_errorOfWord_b18 at hf
  refine lv_iconst (v := 0) hx hb (dc tbX4_errorOfWord_0_k 8 rfl) ic_0 ?_
  exact tX4_errorOfWord_b19 C hk0 hk1 (0 : Int32) hf _ _ _ hI (lv_sub hl [0, 1] rfl)
def mX4_errorOfWord (k0 : Nat) (k1 : Nat) (M : Mem) : Option Int32 := ite2 (k0 = 1) (ite2 ((rd M k1 0) ≤ 0) (mX4_errorOfWord_b18 k0 k1 M) (mX4_errorOfWord_b19 k0 k1 M (1 : Int32))) (mX4_errorOfWord_b18 k0 k1 M)
set_option maxHeartbeats 4000000 in
set_option maxRecDepth 100000 in
theorem tX4_errorOfWord (l : Launch) {G : GT} {kd : Nat → Nat × Nat} {ad : Nat → Nat} {k0 : Nat} {k1 : Nat} (hk0 : k0 < 11) (hk1 : kPart kd k1) {M : Mem} {vo : Int32} (hf : mX4_errorOfWord k0 k1 M = some vo) (n : Nat) : Met l yX4_errorOfWord (Cond.code yX4_errorOfWord cX4_errorOfWord 6 (some .int) :: WA) (rmO 1 0 0) (Pg G kd ad n [.ref (G.2.2 k0), .ref (ad k1)] M) (Qg G kd ad n M (some (.int vo))) 0 0 (AS kd ad n) := by
  refine g_body (own := RX4) (by decide) rfl ?_ (Nat.le_of_ble_eq_true rfl)
  intro p e s m args below meth c C _ H locs ls hI hl
  obtain ⟨hx, hb, hml, hr, hown, hts, hlk, hK, hap, hsx⟩ := id C
  have hl : lv_has ls 6 [(0, .ref (G.2.2 k0)), (1, .ref (ad k1))] := hl
  unfold mX4_errorOfWord at hf
  refine lv_aload_n hx hb (dc tbX4_errorOfWord_0_k 0 rfl) rfl (lv_at hl 0 rfl) ?_
  refine g_gsW 1 (by decide) hx hb hown hts hsx hI q_t5_172 (dc tbX4_errorOfWord_0_k 1 rfl) ?_
  refine g_wne (tgt := 18) hx hb hsx hk0 (by decide) (dc tbX4_errorOfWord_0_k 2 rfl) rfl (fun c1 => ?_) (fun c1 => ?_)
  · have hf := ite_f c1 hf
    exact tX4_errorOfWord_b18 C hk0 hk1 hf _ _ _ hI (lv_sub hl [0, 1] rfl)
  · have hf := ite_t c1 hf
    refine lv_aload_n hx hb (dc tbX4_errorOfWord_0_k 3 rfl) rfl (lv_at hl 1 rfl) ?_
    refine gg1_0 hx hb hts hown hK hI hk1.1 q_t1_103 (dc tbX4_errorOfWord_0_k 4 rfl) ?_
    refine lv_if_le (tgt := 18) hx hb (dc tbX4_errorOfWord_0_k 5 rfl) rfl (fun c21 => ?_) (fun c21 => ?_)
    · have hf := ite_t c21 hf
      exact tX4_errorOfWord_b18 C hk0 hk1 hf _ _ _ hI (lv_sub hl [0, 1] rfl)
    · have hf := ite_f c21 hf
      refine lv_iconst (v := 1) hx hb (dc tbX4_errorOfWord_0_k 6 rfl) ic_1 ?_
      refine lv_goto (tgt := 19) hx hb (dc tbX4_errorOfWord_0_k 7 rfl) rfl ?_
      exact tX4_errorOfWord_b19 C hk0 hk1 (1 : Int32) hf _ _ _ hI (lv_sub hl [0, 1] rfl)
theorem cs_X4_errorOfWord : csF yX4_errorOfWord cX4_errorOfWord 6 (some .int) 2 := ⟨q_t5_170, q_t1_2, q_t5_171, by decide +kernel⟩
def mX4_errorOfNumber_b74 (k0 : Nat) (k1 : Nat) (k2 : Nat) (M : Mem) (x5 : Int32) : Option Int32 := ite2 (x5 = 0) (some (3 : Int32)) (some (0 : Int32))
set_option maxHeartbeats 4000000 in
set_option maxRecDepth 100000 in
theorem tX4_errorOfNumber_b74 {p : Program} {l : Launch} {e : Env} {s : State} {m : MethodId} {args : Array Value} {below : List Frame} {meth : Method} {c : Code} {G : GT} {kd : Nat → Nat × Nat} {ad : Nat → Nat} (C : Cx p s m args meth c cX4_errorOfNumber 6 (some .int) RX4 G kd ad) {k0 : Nat} {k1 : Nat} {k2 : Nat} (hk0 : kReader kd k0) (hk1 : k1 < 11) (hk2 : kPart kd k2) {M : Mem} {vo : Int32}   : ∀ (x5 : Int32), mX4_errorOfNumber_b74 k0 k1 k2 M x5 = some vo → At p l e (rmO 2 0 0) s m args below meth c 0 0 (MQ below (Qg G kd ad s.heap.size M (some (.int vo))) args s 0 0 (AS kd ad s.heap.size)) G kd ad 6 74 [(5, .int x5)] [] M := by
  intro x5 hf H locs ls hI hl
  obtain ⟨hx, hb, hml, hr, hown, hts, hlk, hK, hap, hsx⟩ := id C
  unfold mX4_errorOfNumber_b74 at hf
  refine lv_iload hx hb (dc tbX4_errorOfNumber_0_k 39 rfl) (lv_at hl 0 rfl) ?_
  refine lv_if_eq (tgt := 83) hx hb (dc tbX4_errorOfNumber_1_k 0 rfl) rfl (fun c11 => ?_) (fun c11 => ?_)
  · have hf := ite_t c11 hf
    refine lv_iconst (v := 3) hx hb (dc tbX4_errorOfNumber_1_k 3 rfl) ic_3 ?_
    cases hf
    exact g_iret hx hb hr hlk hI (dc tbX4_errorOfNumber_1_k 4 rfl)
  · have hf := ite_f c11 hf
    refine lv_iconst (v := 0) hx hb (dc tbX4_errorOfNumber_1_k 1 rfl) ic_0 ?_
    refine lv_goto (tgt := 84) hx hb (dc tbX4_errorOfNumber_1_k 2 rfl) rfl ?_
    cases hf
    exact g_iret hx hb hr hlk hI (dc tbX4_errorOfNumber_1_k 4 rfl)
def mX4_errorOfNumber_b47 (k0 : Nat) (k1 : Nat) (k2 : Nat) (M : Mem) (x2 : Int32) (y0 : Int32) : Option Int32 := ite2 (k1 = 4) (ite2 (x2 = 0) (cap (mX1_lastBackRatio k2 M) (fun r14 => ite2 (r14 < (rd M k0 7)) (mX4_errorOfNumber_b74 k0 k1 k2 M y0) (mX4_errorOfNumber_b74 k0 k1 k2 M (0 : Int32)))) (mX4_errorOfNumber_b74 k0 k1 k2 M y0)) (mX4_errorOfNumber_b74 k0 k1 k2 M y0)
set_option maxHeartbeats 4000000 in
set_option maxRecDepth 100000 in
theorem tX4_errorOfNumber_b47 {p : Program} {l : Launch} {e : Env} {s : State} {m : MethodId} {args : Array Value} {below : List Frame} {meth : Method} {c : Code} {G : GT} {kd : Nat → Nat × Nat} {ad : Nat → Nat} (C : Cx p s m args meth c cX4_errorOfNumber 6 (some .int) RX4 G kd ad) {k0 : Nat} {k1 : Nat} {k2 : Nat} (hk0 : kReader kd k0) (hk1 : k1 < 11) (hk2 : kPart kd k2) {M : Mem} {vo : Int32}   : ∀ (x2 : Int32) (y0 : Int32), mX4_errorOfNumber_b47 k0 k1 k2 M x2 y0 = some vo → At p l e (rmO 2 0 0) s m args below meth c 0 0 (MQ below (Qg G kd ad s.heap.size M (some (.int vo))) args s 0 0 (AS kd ad s.heap.size)) G kd ad 6 47 [(0, .ref (ad k0)), (1, .ref (G.2.2 k1)), (2, .int x2), (3, .ref (ad k2))] [.int y0] M := by
  intro x2 y0 hf H locs ls hI hl
  obtain ⟨hx, hb, hml, hr, hown, hts, hlk, hK, hap, hsx⟩ := id C
  unfold mX4_errorOfNumber_b47 at hf
  refine lv_istore (lv' := [(5, .int y0), (0, .ref (ad k0)), (1, .ref (G.2.2 k1)), (2, .int x2), (3, .ref (ad k2))]) hx hb (dc tbX4_errorOfNumber_0_k 26 rfl) hl (by decide) rfl (fun ls hl => ?_)
  refine lv_aload_n hx hb (dc tbX4_errorOfNumber_0_k 27 rfl) rfl (lv_at hl 2 rfl) ?_
  refine g_gsW 4 (by decide) hx hb hown hts hsx hI q_t5_183 (dc tbX4_errorOfNumber_0_k 28 rfl) ?_
  refine g_wne (tgt := 74) hx hb hsx hk1 (by decide) (dc tbX4_errorOfNumber_0_k 29 rfl) rfl (fun c10 => ?_) (fun c10 => ?_)
  · have hf := ite_f c10 hf
    exact tX4_errorOfNumber_b74 C hk0 hk1 hk2 y0 hf _ _ _ hI (lv_sub hl [0] rfl)
  · have hf := ite_t c10 hf
    refine lv_iload_n hx hb (dc tbX4_errorOfNumber_0_k 30 rfl) rfl (lv_at hl 3 rfl) ?_
    refine lv_if_ne (tgt := 74) hx hb (dc tbX4_errorOfNumber_0_k 31 rfl) rfl (fun c12 => ?_) (fun c12 => ?_)
    · have hf := ite_f c12 hf
      exact tX4_errorOfNumber_b74 C hk0 hk1 hk2 y0 hf _ _ _ hI (lv_sub hl [0] rfl)
    · have hf := ite_t c12 hf
      refine lv_aload_n hx hb (dc tbX4_errorOfNumber_0_k 32 rfl) rfl (lv_at hl 1 rfl) ?_
      refine gg4_7 hx hb hts hown hK hI hk0.1 q_t1_52 (dc tbX4_errorOfNumber_0_k 33 rfl) ?_
      refine lv_aload_n hx hb (dc tbX4_errorOfNumber_0_k 34 rfl) rfl (lv_at hl 4 rfl) ?_
      obtain ⟨r14, q13, hf⟩ := cap_s hf
      refine g_callVi hx hb hml hown hts hK hap hsx hI (tX1_lastBackRatio l hk2 q13 H.size) cv_X1_lastBackRatio q_t5_204 rfl rfl ⟨Nat.le_of_ble_eq_true rfl, Nat.le_of_ble_eq_true rfl⟩ hk2.1 (by simp) rfl rfl rfl hl.1 rfl (Nat.le_of_ble_eq_true rfl) (dc tbX4_errorOfNumber_0_k 35 rfl) ⟨Nat.le_of_ble_eq_true rfl, Nat.le_of_ble_eq_true rfl⟩ (fun H locs hI => ?_)
      refine lv_icmp_gt (tgt := 74) hx hb (dc tbX4_errorOfNumber_0_k 36 rfl) rfl (fun c16 => ?_) (fun c16 => ?_)
      · have hf := ite_t c16 hf
        exact tX4_errorOfNumber_b74 C hk0 hk1 hk2 y0 hf _ _ _ hI (lv_sub hl [0] rfl)
      · have hf := ite_f c16 hf
        refine lv_iconst (v := 0) hx hb (dc tbX4_errorOfNumber_0_k 37 rfl) ic_0 ?_
        refine lv_istore (lv' := [(5, .int (0 : Int32)), (0, .ref (ad k0)), (1, .ref (G.2.2 k1)), (2, .int x2), (3, .ref (ad k2))]) hx hb (dc tbX4_errorOfNumber_0_k 38 rfl) hl (by decide) rfl (fun ls hl => ?_)
        exact tX4_errorOfNumber_b74 C hk0 hk1 hk2 (0 : Int32) hf _ _ _ hI (lv_sub hl [0] rfl)
def mX4_errorOfNumber (k0 : Nat) (k1 : Nat) (k2 : Nat) (x2 : Int32) (M : Mem) : Option Int32 := cap (mX4_errorIfNot k0 (3 : Int32) (0 : Int32) M) (fun r2 => ite2 (r2 = 0) (ite2 (x2 = 0) (cap (mX5_allows k1 (0 : Int32) (rd M k0 7) M) (fun r18 => mX4_errorOfNumber_b47 k0 k1 k2 M x2 r18)) (chk (okb (0 : Int32) 3) (cap (mX5_allowsBehind k1 (rd M (k0 + 1) ((0 : Int32)).toNatClampNeg) x2 (rd M k0 7) M) (fun r8 => mX4_errorOfNumber_b47 k0 k1 k2 M x2 r8)))) (some r2))
set_option maxHeartbeats 4000000 in
set_option maxRecDepth 100000 in
theorem tX4_errorOfNumber (l : Launch) {G : GT} {kd : Nat → Nat × Nat} {ad : Nat → Nat} {k0 : Nat} {k1 : Nat} {k2 : Nat} (hk0 : kReader kd k0) (hk1 : k1 < 11) (hk2 : kPart kd k2) {x2 : Int32} {M : Mem} {vo : Int32} (hf : mX4_errorOfNumber k0 k1 k2 x2 M = some vo) (n : Nat) : Met l yX4_errorOfNumber (Cond.code yX4_errorOfNumber cX4_errorOfNumber 6 (some .int) :: WA) (rmO 2 0 0) (Pg G kd ad n [.ref (ad k0), .ref (G.2.2 k1), .int x2, .ref (ad k2)] M) (Qg G kd ad n M (some (.int vo))) 0 0 (AS kd ad n) := by
  refine g_body (own := RX4) (by decide) rfl ?_ (Nat.le_of_ble_eq_true rfl)
  intro p e s m args below meth c C _ H locs ls hI hl
  obtain ⟨hx, hb, hml, hr, hown, hts, hlk, hK, hap, hsx⟩ := id C
  have hl : lv_has ls 6 [(0, .ref (ad k0)), (1, .ref (G.2.2 k1)), (2, .int x2), (3, .ref (ad k2))] := hl
  unfold mX4_errorOfNumber at hf
  refine lv_aload_n hx hb (dc tbX4_errorOfNumber_0_k 0 rfl) rfl (lv_at hl 0 rfl) ?_
  refine lv_iconst (v := 3) hx hb (dc tbX4_errorOfNumber_0_k 1 rfl) ic_3 ?_
  refine lv_iconst (v := 0) hx hb (dc tbX4_errorOfNumber_0_k 2 rfl) ic_0 ?_
  obtain ⟨r2, q1, hf⟩ := cap_s hf
  refine g_callVi hx hb hml hown hts hK hap hsx hI (tX4_errorIfNot l hk0 q1 H.size) cv_X4_errorIfNot q_t5_165 rfl rfl ⟨Nat.le_of_ble_eq_true rfl, Nat.le_of_ble_eq_true rfl⟩ hk0.1 (by simp) rfl rfl rfl hl.1 rfl (Nat.le_of_ble_eq_true rfl) (dc tbX4_errorOfNumber_0_k 3 rfl) ⟨Nat.le_of_ble_eq_true rfl, Nat.le_of_ble_eq_true rfl⟩ (fun H locs hI => ?_)
  refine lv_istore (lv' := [(4, .int r2), (0, .ref (ad k0)), (1, .ref (G.2.2 k1)), (2, .int x2), (3, .ref (ad k2))]) hx hb (dc tbX4_errorOfNumber_0_k 4 rfl) hl (by decide) rfl (fun ls hl => ?_)
  refine lv_iload hx hb (dc tbX4_errorOfNumber_0_k 5 rfl) (lv_at hl 0 rfl) ?_
  refine lv_if_eq (tgt := 16) hx hb (dc tbX4_errorOfNumber_0_k 6 rfl) rfl (fun c4 => ?_) (fun c4 => ?_)
  · have hf := ite_t c4 hf
    refine lv_iload_n hx hb (dc tbX4_errorOfNumber_0_k 9 rfl) rfl (lv_at hl 3 rfl) ?_
    refine lv_if_ne (tgt := 32) hx hb (dc tbX4_errorOfNumber_0_k 10 rfl) rfl (fun c5 => ?_) (fun c5 => ?_)
    · have hf := ite_f c5 hf
      refine lv_aload_n hx hb (dc tbX4_errorOfNumber_0_k 17 rfl) rfl (lv_at hl 2 rfl) ?_
      refine lv_aload_n hx hb (dc tbX4_errorOfNumber_0_k 18 rfl) rfl (lv_at hl 1 rfl) ?_
      refine gg4_8 hx hb hts hown hK hI hk0.1 q_t1_53 (dc tbX4_errorOfNumber_0_k 19 rfl) ?_
      refine lv_iconst (v := 0) hx hb (dc tbX4_errorOfNumber_0_k 20 rfl) ic_0 ?_
      obtain ⟨h6, hf⟩ := chk_s hf
      refine g_iald hx hb hK hI hk0.2.1 (okb_in h6) (dc tbX4_errorOfNumber_0_k 21 rfl) ?_
      refine lv_iload_n hx hb (dc tbX4_errorOfNumber_0_k 22 rfl) rfl (lv_at hl 3 rfl) ?_
      refine lv_aload_n hx hb (dc tbX4_errorOfNumber_0_k 23 rfl) rfl (lv_at hl 1 rfl) ?_
      refine gg4_7 hx hb hts hown hK hI hk0.1 q_t1_52 (dc tbX4_errorOfNumber_0_k 24 rfl) ?_
      obtain ⟨r8, q7, hf⟩ := cap_s hf
      refine g_callWi hx hb hml hown hts hK hap hsx hI (tX5_allowsBehind l hk1 q7 H.size) cv_X5_allowsBehind q_t5_197 rfl rfl ⟨Nat.le_of_ble_eq_true rfl, Nat.le_of_ble_eq_true rfl⟩ hk1 rfl hl.1 rfl (Nat.le_of_ble_eq_true rfl) (dc tbX4_errorOfNumber_0_k 25 rfl) ⟨Nat.le_of_ble_eq_true rfl, Nat.le_of_ble_eq_true rfl⟩ (fun H locs hI => ?_)
      exact tX4_errorOfNumber_b47 C hk0 hk1 hk2 x2 r8 hf _ _ _ hI (lv_sub hl [1, 2, 3, 4] rfl)
    · have hf := ite_t c5 hf
      refine lv_aload_n hx hb (dc tbX4_errorOfNumber_0_k 11 rfl) rfl (lv_at hl 2 rfl) ?_
      refine lv_iconst (v := 0) hx hb (dc tbX4_errorOfNumber_0_k 12 rfl) ic_0 ?_
      refine lv_aload_n hx hb (dc tbX4_errorOfNumber_0_k 13 rfl) rfl (lv_at hl 1 rfl) ?_
      refine gg4_7 hx hb hts hown hK hI hk0.1 q_t1_52 (dc tbX4_errorOfNumber_0_k 14 rfl) ?_
      obtain ⟨r18, q17, hf⟩ := cap_s hf
      refine g_callWi hx hb hml hown hts hK hap hsx hI (tX5_allows l hk1 q17 H.size) cv_X5_allows q_t5_193 rfl rfl ⟨Nat.le_of_ble_eq_true rfl, Nat.le_of_ble_eq_true rfl⟩ hk1 rfl hl.1 rfl (Nat.le_of_ble_eq_true rfl) (dc tbX4_errorOfNumber_0_k 15 rfl) ⟨Nat.le_of_ble_eq_true rfl, Nat.le_of_ble_eq_true rfl⟩ (fun H locs hI => ?_)
      refine lv_goto (tgt := 47) hx hb (dc tbX4_errorOfNumber_0_k 16 rfl) rfl ?_
      exact tX4_errorOfNumber_b47 C hk0 hk1 hk2 x2 r18 hf _ _ _ hI (lv_sub hl [1, 2, 3, 4] rfl)
  · have hf := ite_f c4 hf
    refine lv_iload hx hb (dc tbX4_errorOfNumber_0_k 7 rfl) (lv_at hl 0 rfl) ?_
    cases hf
    exact g_iret hx hb hr hlk hI (dc tbX4_errorOfNumber_0_k 8 rfl)
theorem cv_X4_errorOfNumber : cvF RX4 yX4_errorOfNumber cX4_errorOfNumber 6 (some .int) 3 := ⟨q_t5_191, q_s2_9, q_t1_2, q_t5_192, by decide +kernel⟩
def mX4_accept_b139 (k0 : Nat) (k1 : Nat) (k2 : Nat) (y1 : Int32) (y2 : Int32) (M : Mem) : Option (Mem × Unit) := cal (mX1_addLeg k2 y1 y2 M) (fun M12 _ => some (M12, ()))
set_option maxHeartbeats 4000000 in
set_option maxRecDepth 100000 in
theorem tX4_accept_b139 {p : Program} {l : Launch} {e : Env} {s : State} {m : MethodId} {args : Array Value} {below : List Frame} {meth : Method} {c : Code} {G : GT} {kd : Nat → Nat × Nat} {ad : Nat → Nat} (C : Cx p s m args meth c cX4_accept 4 none RX4 G kd ad) {k0 : Nat} {k1 : Nat} {k2 : Nat} (hk0 : kReader kd k0) (hk1 : k1 < 11) (hk2 : kPart kd k2) {MO : Mem} {vo : Unit}   : ∀ (y1 : Int32) (y2 : Int32) (M : Mem), mX4_accept_b139 k0 k1 k2 y1 y2 M = some (MO, vo) → At p l e (rmO 2 0 0) s m args below meth c 0 0 (MQ below (Qg G kd ad s.heap.size MO none) args s 0 0 (AS kd ad s.heap.size)) G kd ad 4 139 [] [.int y2, .int y1, .ref (ad k2)] M := by
  intro y1 y2 M hf H locs ls hI hl
  obtain ⟨hx, hb, hml, hr, hown, hts, hlk, hK, hap, hsx⟩ := id C
  unfold mX4_accept_b139 at hf
  obtain ⟨M12, r11, q10, hf⟩ := cal_s hf
  refine g_callVv hx hb hml hown hts hK hap hsx hI (tX1_addLeg l hk2 q10 H.size) cv_X1_addLeg q_t5_239 rfl rfl ⟨Nat.le_of_ble_eq_true rfl, Nat.le_of_ble_eq_true rfl⟩ hk2.1 (by simp) rfl rfl rfl hl.1 rfl (Nat.le_of_ble_eq_true rfl) (dc tbX4_accept_1_k 39 rfl) ⟨Nat.le_of_ble_eq_true rfl, Nat.le_of_ble_eq_true rfl⟩ (fun H locs hI => ?_)
  cases hf
  exact g_vret hx hb hr hlk hI (dc tbX4_accept_2_k 0 rfl)
def mX4_accept (k0 : Nat) (k1 : Nat) (k2 : Nat) (M : Mem) : Option (Mem × Unit) := cap (mX5_toolNumber k1 M) (fun r2 => ite2 (r2 = (-1 : Int32)) (ite2 (k1 = 0) (chk (okb (0 : Int32) 3) (chk (okb (1 : Int32) 3) (chk (okb (2 : Int32) 3) (cal (mX1_putSheet k2 (rd M (k0 + 1) ((0 : Int32)).toNatClampNeg) (rd M (k0 + 1) ((1 : Int32)).toNatClampNeg) (rd M (k0 + 1) ((2 : Int32)).toNatClampNeg) M) (fun M29 _ => some (M29, ())))))) (ite2 (k1 = 10) (chk (okb (0 : Int32) 3) (chk (okb (1 : Int32) 3) (chk (okb (2 : Int32) 3) (cal (mX1_putCosts k2 (rd M (k0 + 1) ((0 : Int32)).toNatClampNeg) (rd M (k0 + 1) ((1 : Int32)).toNatClampNeg) (rd M (k0 + 1) ((2 : Int32)).toNatClampNeg) M) (fun M23 _ => some (M23, ())))))) (ite2 (k1 = 4) (chk (okb (0 : Int32) 3) (chk (okb (1 : Int32) 3) (cal (mX1_addBack k2 (rd M (k0 + 1) ((0 : Int32)).toNatClampNeg) (rd M (k0 + 1) ((1 : Int32)).toNatClampNeg) M) (fun M17 _ => some (M17, ()))))) (chk (okb (0 : Int32) 3) (ite2 (k1 = 2) (mX4_accept_b139 k0 k1 k2 (rd M (k0 + 1) ((0 : Int32)).toNatClampNeg) (1 : Int32) M) (mX4_accept_b139 k0 k1 k2 (rd M (k0 + 1) ((0 : Int32)).toNatClampNeg) (0 : Int32) M)))))) (chk (okb (0 : Int32) 3) (chk (okb (1 : Int32) 3) (cal (mX1_putTool k2 r2 (rd M (k0 + 1) ((0 : Int32)).toNatClampNeg) (rd M (k0 + 1) ((1 : Int32)).toNatClampNeg) M) (fun M34 _ => some (M34, ()))))))
set_option maxHeartbeats 4000000 in
set_option maxRecDepth 100000 in
theorem tX4_accept (l : Launch) {G : GT} {kd : Nat → Nat × Nat} {ad : Nat → Nat} {k0 : Nat} {k1 : Nat} {k2 : Nat} (hk0 : kReader kd k0) (hk1 : k1 < 11) (hk2 : kPart kd k2) {M : Mem} {MO : Mem} {vo : Unit} (hf : mX4_accept k0 k1 k2 M = some (MO, vo)) (n : Nat) : Met l yX4_accept (Cond.code yX4_accept cX4_accept 4 none :: WA) (rmO 2 0 0) (Pg G kd ad n [.ref (ad k0), .ref (G.2.2 k1), .ref (ad k2)] M) (Qg G kd ad n MO none) 0 0 (AS kd ad n) := by
  refine g_body (own := RX4) (by decide) rfl ?_ (Nat.le_of_ble_eq_true rfl)
  intro p e s m args below meth c C _ H locs ls hI hl
  obtain ⟨hx, hb, hml, hr, hown, hts, hlk, hK, hap, hsx⟩ := id C
  have hl : lv_has ls 4 [(0, .ref (ad k0)), (1, .ref (G.2.2 k1)), (2, .ref (ad k2))] := hl
  unfold mX4_accept at hf
  refine lv_aload_n hx hb (dc tbX4_accept_0_k 0 rfl) rfl (lv_at hl 1 rfl) ?_
  obtain ⟨r2, q1, hf⟩ := cap_s hf
  refine g_callWi hx hb hml hown hts hK hap hsx hI (tX5_toolNumber l hk1 q1 H.size) cv_X5_toolNumber q_t5_212 rfl rfl ⟨Nat.le_of_ble_eq_true rfl, Nat.le_of_ble_eq_true rfl⟩ hk1 rfl hl.1 rfl (Nat.le_of_ble_eq_true rfl) (dc tbX4_accept_0_k 1 rfl) ⟨Nat.le_of_ble_eq_true rfl, Nat.le_of_ble_eq_true rfl⟩ (fun H locs hI => ?_)
  refine lv_istore_n (lv' := [(3, .int r2), (0, .ref (ad k0)), (1, .ref (G.2.2 k1)), (2, .ref (ad k2))]) hx hb (dc tbX4_accept_0_k 2 rfl) rfl hl (by decide) rfl (fun ls hl => ?_)
  refine lv_iload_n hx hb (dc tbX4_accept_0_k 3 rfl) rfl (lv_at hl 0 rfl) ?_
  refine lv_iconst (v := -1) hx hb (dc tbX4_accept_0_k 4 rfl) ic_m1 ?_
  refine lv_icmp_eq (tgt := 30) hx hb (dc tbX4_accept_0_k 5 rfl) rfl (fun c4 => ?_) (fun c4 => ?_)
  · have hf := ite_t c4 hf
    refine lv_aload_n hx hb (dc tbX4_accept_0_k 18 rfl) rfl (lv_at hl 2 rfl) ?_
    refine g_gsW 0 (by decide) hx hb hown hts hsx hI q_t5_228 (dc tbX4_accept_0_k 19 rfl) ?_
    refine g_wne (tgt := 62) hx hb hsx hk1 (by decide) (dc tbX4_accept_0_k 20 rfl) rfl (fun c5 => ?_) (fun c5 => ?_)
    · have hf := ite_f c5 hf
      refine lv_aload_n hx hb (dc tbX4_accept_0_k 36 rfl) rfl (lv_at hl 2 rfl) ?_
      refine g_gsW 10 (by decide) hx hb hown hts hsx hI q_t5_231 (dc tbX4_accept_0_k 37 rfl) ?_
      refine g_wne (tgt := 94) hx hb hsx hk1 (by decide) (dc tbX4_accept_0_k 38 rfl) rfl (fun c6 => ?_) (fun c6 => ?_)
      · have hf := ite_f c6 hf
        refine lv_aload_n hx hb (dc tbX4_accept_1_k 14 rfl) rfl (lv_at hl 2 rfl) ?_
        refine g_gsW 4 (by decide) hx hb hown hts hsx hI q_t5_183 (dc tbX4_accept_1_k 15 rfl) ?_
        refine g_wne (tgt := 120) hx hb hsx hk1 (by decide) (dc tbX4_accept_1_k 16 rfl) rfl (fun c7 => ?_) (fun c7 => ?_)
        · have hf := ite_f c7 hf
          refine lv_aload_n hx hb (dc tbX4_accept_1_k 28 rfl) rfl (lv_at hl 3 rfl) ?_
          refine lv_aload_n hx hb (dc tbX4_accept_1_k 29 rfl) rfl (lv_at hl 1 rfl) ?_
          refine gg4_8 hx hb hts hown hK hI hk0.1 q_t1_53 (dc tbX4_accept_1_k 30 rfl) ?_
          refine lv_iconst (v := 0) hx hb (dc tbX4_accept_1_k 31 rfl) ic_0 ?_
          obtain ⟨h8, hf⟩ := chk_s hf
          refine g_iald hx hb hK hI hk0.2.1 (okb_in h8) (dc tbX4_accept_1_k 32 rfl) ?_
          refine lv_aload_n hx hb (dc tbX4_accept_1_k 33 rfl) rfl (lv_at hl 2 rfl) ?_
          refine g_gsW 2 (by decide) hx hb hown hts hsx hI q_t5_238 (dc tbX4_accept_1_k 34 rfl) ?_
          refine g_wne (tgt := 138) hx hb hsx hk1 (by decide) (dc tbX4_accept_1_k 35 rfl) rfl (fun c9 => ?_) (fun c9 => ?_)
          · have hf := ite_f c9 hf
            refine lv_iconst (v := 0) hx hb (dc tbX4_accept_1_k 38 rfl) ic_0 ?_
            exact tX4_accept_b139 C hk0 hk1 hk2 (rd M (k0 + 1) ((0 : Int32)).toNatClampNeg) (0 : Int32) M hf _ _ _ hI (lv_sub hl [] rfl)
          · have hf := ite_t c9 hf
            refine lv_iconst (v := 1) hx hb (dc tbX4_accept_1_k 36 rfl) ic_1 ?_
            refine lv_goto (tgt := 139) hx hb (dc tbX4_accept_1_k 37 rfl) rfl ?_
            exact tX4_accept_b139 C hk0 hk1 hk2 (rd M (k0 + 1) ((0 : Int32)).toNatClampNeg) (1 : Int32) M hf _ _ _ hI (lv_sub hl [] rfl)
        · have hf := ite_t c7 hf
          refine lv_aload_n hx hb (dc tbX4_accept_1_k 17 rfl) rfl (lv_at hl 3 rfl) ?_
          refine lv_aload_n hx hb (dc tbX4_accept_1_k 18 rfl) rfl (lv_at hl 1 rfl) ?_
          refine gg4_8 hx hb hts hown hK hI hk0.1 q_t1_53 (dc tbX4_accept_1_k 19 rfl) ?_
          refine lv_iconst (v := 0) hx hb (dc tbX4_accept_1_k 20 rfl) ic_0 ?_
          obtain ⟨h13, hf⟩ := chk_s hf
          refine g_iald hx hb hK hI hk0.2.1 (okb_in h13) (dc tbX4_accept_1_k 21 rfl) ?_
          refine lv_aload_n hx hb (dc tbX4_accept_1_k 22 rfl) rfl (lv_at hl 1 rfl) ?_
          refine gg4_8 hx hb hts hown hK hI hk0.1 q_t1_53 (dc tbX4_accept_1_k 23 rfl) ?_
          refine lv_iconst (v := 1) hx hb (dc tbX4_accept_1_k 24 rfl) ic_1 ?_
          obtain ⟨h14, hf⟩ := chk_s hf
          refine g_iald hx hb hK hI hk0.2.1 (okb_in h14) (dc tbX4_accept_1_k 25 rfl) ?_
          obtain ⟨M17, r16, q15, hf⟩ := cal_s hf
          refine g_callVv hx hb hml hown hts hK hap hsx hI (tX1_addBack l hk2 q15 H.size) cv_X1_addBack q_t5_234 rfl rfl ⟨Nat.le_of_ble_eq_true rfl, Nat.le_of_ble_eq_true rfl⟩ hk2.1 (by simp) rfl rfl rfl hl.1 rfl (Nat.le_of_ble_eq_true rfl) (dc tbX4_accept_1_k 26 rfl) ⟨Nat.le_of_ble_eq_true rfl, Nat.le_of_ble_eq_true rfl⟩ (fun H locs hI => ?_)
          refine lv_goto (tgt := 142) hx hb (dc tbX4_accept_1_k 27 rfl) rfl ?_
          cases hf
          exact g_vret hx hb hr hlk hI (dc tbX4_accept_2_k 0 rfl)
      · have hf := ite_t c6 hf
        refine lv_aload_n hx hb (dc tbX4_accept_0_k 39 rfl) rfl (lv_at hl 3 rfl) ?_
        refine lv_aload_n hx hb (dc tbX4_accept_1_k 0 rfl) rfl (lv_at hl 1 rfl) ?_
        refine gg4_8 hx hb hts hown hK hI hk0.1 q_t1_53 (dc tbX4_accept_1_k 1 rfl) ?_
        refine lv_iconst (v := 0) hx hb (dc tbX4_accept_1_k 2 rfl) ic_0 ?_
        obtain ⟨h18, hf⟩ := chk_s hf
        refine g_iald hx hb hK hI hk0.2.1 (okb_in h18) (dc tbX4_accept_1_k 3 rfl) ?_
        refine lv_aload_n hx hb (dc tbX4_accept_1_k 4 rfl) rfl (lv_at hl 1 rfl) ?_
        refine gg4_8 hx hb hts hown hK hI hk0.1 q_t1_53 (dc tbX4_accept_1_k 5 rfl) ?_
        refine lv_iconst (v := 1) hx hb (dc tbX4_accept_1_k 6 rfl) ic_1 ?_
        obtain ⟨h19, hf⟩ := chk_s hf
        refine g_iald hx hb hK hI hk0.2.1 (okb_in h19) (dc tbX4_accept_1_k 7 rfl) ?_
        refine lv_aload_n hx hb (dc tbX4_accept_1_k 8 rfl) rfl (lv_at hl 1 rfl) ?_
        refine gg4_8 hx hb hts hown hK hI hk0.1 q_t1_53 (dc tbX4_accept_1_k 9 rfl) ?_
        refine lv_iconst (v := 2) hx hb (dc tbX4_accept_1_k 10 rfl) ic_2 ?_
        obtain ⟨h20, hf⟩ := chk_s hf
        refine g_iald hx hb hK hI hk0.2.1 (okb_in h20) (dc tbX4_accept_1_k 11 rfl) ?_
        obtain ⟨M23, r22, q21, hf⟩ := cal_s hf
        refine g_callVv hx hb hml hown hts hK hap hsx hI (tX1_putCosts l hk2 q21 H.size) cv_X1_putCosts q_t5_233 rfl rfl ⟨Nat.le_of_ble_eq_true rfl, Nat.le_of_ble_eq_true rfl⟩ hk2.1 (by simp) rfl rfl rfl hl.1 rfl (Nat.le_of_ble_eq_true rfl) (dc tbX4_accept_1_k 12 rfl) ⟨Nat.le_of_ble_eq_true rfl, Nat.le_of_ble_eq_true rfl⟩ (fun H locs hI => ?_)
        refine lv_goto (tgt := 142) hx hb (dc tbX4_accept_1_k 13 rfl) rfl ?_
        cases hf
        exact g_vret hx hb hr hlk hI (dc tbX4_accept_2_k 0 rfl)
    · have hf := ite_t c5 hf
      refine lv_aload_n hx hb (dc tbX4_accept_0_k 21 rfl) rfl (lv_at hl 3 rfl) ?_
      refine lv_aload_n hx hb (dc tbX4_accept_0_k 22 rfl) rfl (lv_at hl 1 rfl) ?_
      refine gg4_8 hx hb hts hown hK hI hk0.1 q_t1_53 (dc tbX4_accept_0_k 23 rfl) ?_
      refine lv_iconst (v := 0) hx hb (dc tbX4_accept_0_k 24 rfl) ic_0 ?_
      obtain ⟨h24, hf⟩ := chk_s hf
      refine g_iald hx hb hK hI hk0.2.1 (okb_in h24) (dc tbX4_accept_0_k 25 rfl) ?_
      refine lv_aload_n hx hb (dc tbX4_accept_0_k 26 rfl) rfl (lv_at hl 1 rfl) ?_
      refine gg4_8 hx hb hts hown hK hI hk0.1 q_t1_53 (dc tbX4_accept_0_k 27 rfl) ?_
      refine lv_iconst (v := 1) hx hb (dc tbX4_accept_0_k 28 rfl) ic_1 ?_
      obtain ⟨h25, hf⟩ := chk_s hf
      refine g_iald hx hb hK hI hk0.2.1 (okb_in h25) (dc tbX4_accept_0_k 29 rfl) ?_
      refine lv_aload_n hx hb (dc tbX4_accept_0_k 30 rfl) rfl (lv_at hl 1 rfl) ?_
      refine gg4_8 hx hb hts hown hK hI hk0.1 q_t1_53 (dc tbX4_accept_0_k 31 rfl) ?_
      refine lv_iconst (v := 2) hx hb (dc tbX4_accept_0_k 32 rfl) ic_2 ?_
      obtain ⟨h26, hf⟩ := chk_s hf
      refine g_iald hx hb hK hI hk0.2.1 (okb_in h26) (dc tbX4_accept_0_k 33 rfl) ?_
      obtain ⟨M29, r28, q27, hf⟩ := cal_s hf
      refine g_callVv hx hb hml hown hts hK hap hsx hI (tX1_putSheet l hk2 q27 H.size) cv_X1_putSheet q_t5_230 rfl rfl ⟨Nat.le_of_ble_eq_true rfl, Nat.le_of_ble_eq_true rfl⟩ hk2.1 (by simp) rfl rfl rfl hl.1 rfl (Nat.le_of_ble_eq_true rfl) (dc tbX4_accept_0_k 34 rfl) ⟨Nat.le_of_ble_eq_true rfl, Nat.le_of_ble_eq_true rfl⟩ (fun H locs hI => ?_)
      refine lv_goto (tgt := 142) hx hb (dc tbX4_accept_0_k 35 rfl) rfl ?_
      cases hf
      exact g_vret hx hb hr hlk hI (dc tbX4_accept_2_k 0 rfl)
  · have hf := ite_f c4 hf
    refine lv_aload_n hx hb (dc tbX4_accept_0_k 6 rfl) rfl (lv_at hl 3 rfl) ?_
    refine lv_iload_n hx hb (dc tbX4_accept_0_k 7 rfl) rfl (lv_at hl 0 rfl) ?_
    refine lv_aload_n hx hb (dc tbX4_accept_0_k 8 rfl) rfl (lv_at hl 1 rfl) ?_
    refine gg4_8 hx hb hts hown hK hI hk0.1 q_t1_53 (dc tbX4_accept_0_k 9 rfl) ?_
    refine lv_iconst (v := 0) hx hb (dc tbX4_accept_0_k 10 rfl) ic_0 ?_
    obtain ⟨h30, hf⟩ := chk_s hf
    refine g_iald hx hb hK hI hk0.2.1 (okb_in h30) (dc tbX4_accept_0_k 11 rfl) ?_
    refine lv_aload_n hx hb (dc tbX4_accept_0_k 12 rfl) rfl (lv_at hl 1 rfl) ?_
    refine gg4_8 hx hb hts hown hK hI hk0.1 q_t1_53 (dc tbX4_accept_0_k 13 rfl) ?_
    refine lv_iconst (v := 1) hx hb (dc tbX4_accept_0_k 14 rfl) ic_1 ?_
    obtain ⟨h31, hf⟩ := chk_s hf
    refine g_iald hx hb hK hI hk0.2.1 (okb_in h31) (dc tbX4_accept_0_k 15 rfl) ?_
    obtain ⟨M34, r33, q32, hf⟩ := cal_s hf
    refine g_callVv hx hb hml hown hts hK hap hsx hI (tX1_putTool l hk2 q32 H.size) cv_X1_putTool q_t5_227 rfl rfl ⟨Nat.le_of_ble_eq_true rfl, Nat.le_of_ble_eq_true rfl⟩ hk2.1 (by simp) rfl rfl rfl hl.1 rfl (Nat.le_of_ble_eq_true rfl) (dc tbX4_accept_0_k 16 rfl) ⟨Nat.le_of_ble_eq_true rfl, Nat.le_of_ble_eq_true rfl⟩ (fun H locs hI => ?_)
    refine lv_goto (tgt := 142) hx hb (dc tbX4_accept_0_k 17 rfl) rfl ?_
    cases hf
    exact g_vret hx hb hr hlk hI (dc tbX4_accept_2_k 0 rfl)
theorem cv_X4_accept : cvF RX4 yX4_accept cX4_accept 4 none 2 := ⟨q_t5_210, q_s2_10, q_t1_2, q_t5_211, by decide +kernel⟩
def mX4_readStatement_b148 (k0 : Nat) (k1 : Nat) (x3 : Int32) (M : Mem) : Option (Mem × Unit) := bnd (wr M k0 0 x3) (fun M8 => bnd (wr M8 k0 1 (rd M8 k0 4)) (fun M10 => some (M10, ())))
set_option maxHeartbeats 4000000 in
set_option maxRecDepth 100000 in
theorem tX4_readStatement_b148 {p : Program} {l : Launch} {e : Env} {s : State} {m : MethodId} {args : Array Value} {below : List Frame} {meth : Method} {c : Code} {G : GT} {kd : Nat → Nat × Nat} {ad : Nat → Nat} (C : Cx p s m args meth c cX4_readStatement 5 none RX4 G kd ad) {k0 : Nat} {k1 : Nat} (hk0 : kReader kd k0) (hk1 : kPart kd k1) {MO : Mem} {vo : Unit}   : ∀ (x3 : Int32) (M : Mem), mX4_readStatement_b148 k0 k1 x3 M = some (MO, vo) → At p l e (rmO 6 0 0) s m args below meth c 0 0 (MQ below (Qg G kd ad s.heap.size MO none) args s 0 0 (AS kd ad s.heap.size)) G kd ad 5 148 [(0, .ref (ad k0)), (3, .int x3)] [] M := by
  intro x3 M hf H locs ls hI hl
  obtain ⟨hx, hb, hml, hr, hown, hts, hlk, hK, hap, hsx⟩ := id C
  unfold mX4_readStatement_b148 at hf
  refine lv_aload_n hx hb (dc tbX4_readStatement_2_k 0 rfl) rfl (lv_at hl 0 rfl) ?_
  refine lv_iload_n hx hb (dc tbX4_readStatement_2_k 1 rfl) rfl (lv_at hl 1 rfl) ?_
  obtain ⟨M8, e9, hf⟩ := bnd_s hf
  refine gp4_0 hx hb hts hown hK hap hI hk0.1 q_t1_43 (dc tbX4_readStatement_2_k 2 rfl) e9 (fun H locs hI => ?_)
  refine lv_aload_n hx hb (dc tbX4_readStatement_2_k 3 rfl) rfl (lv_at hl 0 rfl) ?_
  refine lv_aload_n hx hb (dc tbX4_readStatement_2_k 4 rfl) rfl (lv_at hl 0 rfl) ?_
  refine gg4_4 hx hb hts hown hK hI hk0.1 q_t1_49 (dc tbX4_readStatement_2_k 5 rfl) ?_
  obtain ⟨M10, e11, hf⟩ := bnd_s hf
  refine gp4_1 hx hb hts hown hK hap hI hk0.1 q_t1_45 (dc tbX4_readStatement_2_k 6 rfl) e11 (fun H locs hI => ?_)
  cases hf
  exact g_vret hx hb hr hlk hI (dc tbX4_readStatement_2_k 7 rfl)
def mX4_readStatement_b131 (k0 : Nat) (k1 : Nat) (x3 : Int32) (M : Mem) : Option (Mem × Unit) := ite2 (x3 = 0) (mX4_readStatement_b148 k0 k1 x3 M) (mX4_readStatement_b148 k0 k1 x3 M)
set_option maxHeartbeats 4000000 in
set_option maxRecDepth 100000 in
theorem tX4_readStatement_b131 {p : Program} {l : Launch} {e : Env} {s : State} {m : MethodId} {args : Array Value} {below : List Frame} {meth : Method} {c : Code} {G : GT} {kd : Nat → Nat × Nat} {ad : Nat → Nat} (C : Cx p s m args meth c cX4_readStatement 5 none RX4 G kd ad) {k0 : Nat} {k1 : Nat} (hk0 : kReader kd k0) (hk1 : kPart kd k1) {MO : Mem} {vo : Unit}   : ∀ (x3 : Int32) (M : Mem), mX4_readStatement_b131 k0 k1 x3 M = some (MO, vo) → At p l e (rmO 6 0 0) s m args below meth c 0 0 (MQ below (Qg G kd ad s.heap.size MO none) args s 0 0 (AS kd ad s.heap.size)) G kd ad 5 131 [(0, .ref (ad k0)), (1, .ref (ad k1)), (2, .null), (3, .int x3)] [] M := by
  intro x3 M hf H locs ls hI hl
  obtain ⟨hx, hb, hml, hr, hown, hts, hlk, hK, hap, hsx⟩ := id C
  unfold mX4_readStatement_b131 at hf
  refine lv_iload_n hx hb (dc tbX4_readStatement_1_k 31 rfl) rfl (lv_at hl 3 rfl) ?_
  refine lv_if_ne (tgt := 148) hx hb (dc tbX4_readStatement_1_k 32 rfl) rfl (fun c7 => ?_) (fun c7 => ?_)
  · have hf := ite_f c7 hf
    exact tX4_readStatement_b148 C hk0 hk1 x3 M hf _ _ _ hI (lv_sub hl [0, 3] rfl)
  · have hf := ite_t c7 hf
    refine lv_aload_nN hx hb (dc tbX4_readStatement_1_k 33 rfl) rfl (lv_at hl 2 rfl) ?_
    refine lv_ifnullN (tgt := 148) hx hb (dc tbX4_readStatement_1_k 34 rfl) rfl ?_
    exact tX4_readStatement_b148 C hk0 hk1 x3 M hf _ _ _ hI (lv_sub hl [0, 3] rfl)
def mX4_readStatement_b110 (k0 : Nat) (k1 : Nat) (ih55 : Int32 → Int32 → Mem → Option (Mem × Unit)) (x3 : Int32) (x4 : Int32) (M : Mem) : Option (Mem × Unit) := bnd (x4 + (1 : Int32)) (fun x4_110 => ih55 x3 x4_110 M)
set_option maxHeartbeats 4000000 in
set_option maxRecDepth 100000 in
theorem tX4_readStatement_b110 {p : Program} {l : Launch} {e : Env} {s : State} {m : MethodId} {args : Array Value} {below : List Frame} {meth : Method} {c : Code} {G : GT} {kd : Nat → Nat × Nat} {ad : Nat → Nat} (C : Cx p s m args meth c cX4_readStatement 5 none RX4 G kd ad) {k0 : Nat} {k1 : Nat} (hk0 : kReader kd k0) (hk1 : kPart kd k1) {MO : Mem} {vo : Unit} {ih55 : Int32 → Int32 → Mem → Option (Mem × Unit)} (hih55 : ∀ (x3 : Int32) (x4 : Int32) (M : Mem), ih55 x3 x4 M = some (MO, vo) → At p l e (rmO 6 0 0) s m args below meth c 0 0 (MQ below (Qg G kd ad s.heap.size MO none) args s 0 0 (AS kd ad s.heap.size)) G kd ad 5 55 [(0, .ref (ad k0)), (1, .ref (ad k1)), (2, .null), (3, .int x3), (4, .int x4)] [] M) : ∀ (x3 : Int32) (x4 : Int32) (M : Mem), mX4_readStatement_b110 k0 k1 ih55 x3 x4 M = some (MO, vo) → At p l e (rmO 6 0 0) s m args below meth c 0 0 (MQ below (Qg G kd ad s.heap.size MO none) args s 0 0 (AS kd ad s.heap.size)) G kd ad 5 110 [(0, .ref (ad k0)), (1, .ref (ad k1)), (2, .null), (3, .int x3), (4, .int x4)] [] M := by
  intro x3 x4 M hf H locs ls hI hl
  obtain ⟨hx, hb, hml, hr, hown, hts, hlk, hK, hap, hsx⟩ := id C
  unfold mX4_readStatement_b110 at hf
  obtain ⟨x4_110, e22, hf⟩ := bnd_s hf
  refine lv_iinc (v := x4_110) (lv' := [(4, .int x4_110), (0, .ref (ad k0)), (1, .ref (ad k1)), (2, .null), (3, .int x3)]) hx hb (dc tbX4_readStatement_1_k 20 rfl) hl (k := 4) rfl (ii_e e22 ic_1) (by decide) rfl (fun ls hl => ?_)
  refine lv_goto (tgt := 55) hx hb (dc tbX4_readStatement_1_k 21 rfl) rfl ?_
  exact hih55 x3 x4_110 M hf _ _ _ hI (lv_sub hl [1, 2, 3, 4, 0] rfl)
def mX4_readStatement_b55 (k0 : Nat) (k1 : Nat) (ih55 : Int32 → Int32 → Mem → Option (Mem × Unit)) (x3 : Int32) (x4 : Int32) (M : Mem) : Option (Mem × Unit) := ite2 ((3 : Int32) ≤ x4) (ite2 (x3 = 0) (cal (mX4_nextToken k0 M) (fun M14 _ => cap (mX4_errorIfNot k0 (4 : Int32) (0 : Int32) M14) (fun r16 => mX4_readStatement_b131 k0 k1 r16 M14))) (mX4_readStatement_b131 k0 k1 x3 M)) (chk (okb x4 3) (bnd (wr M (k0 + 1) (x4).toNatClampNeg (0 : Int32)) (fun M20 => ite2 (x3 = 0) (mX4_readStatement_b110 k0 k1 ih55 x3 x4 M20) (mX4_readStatement_b110 k0 k1 ih55 x3 x4 M20))))
set_option maxHeartbeats 4000000 in
set_option maxRecDepth 100000 in
theorem tX4_readStatement_b55 {p : Program} {l : Launch} {e : Env} {s : State} {m : MethodId} {args : Array Value} {below : List Frame} {meth : Method} {c : Code} {G : GT} {kd : Nat → Nat × Nat} {ad : Nat → Nat} (C : Cx p s m args meth c cX4_readStatement 5 none RX4 G kd ad) {k0 : Nat} {k1 : Nat} (hk0 : kReader kd k0) (hk1 : kPart kd k1) {MO : Mem} {vo : Unit} {ih55 : Int32 → Int32 → Mem → Option (Mem × Unit)} (hih55 : ∀ (x3 : Int32) (x4 : Int32) (M : Mem), ih55 x3 x4 M = some (MO, vo) → At p l e (rmO 6 0 0) s m args below meth c 0 0 (MQ below (Qg G kd ad s.heap.size MO none) args s 0 0 (AS kd ad s.heap.size)) G kd ad 5 55 [(0, .ref (ad k0)), (1, .ref (ad k1)), (2, .null), (3, .int x3), (4, .int x4)] [] M) : ∀ (x3 : Int32) (x4 : Int32) (M : Mem), mX4_readStatement_b55 k0 k1 ih55 x3 x4 M = some (MO, vo) → At p l e (rmO 6 0 0) s m args below meth c 0 0 (MQ below (Qg G kd ad s.heap.size MO none) args s 0 0 (AS kd ad s.heap.size)) G kd ad 5 55 [(0, .ref (ad k0)), (1, .ref (ad k1)), (2, .null), (3, .int x3), (4, .int x4)] [] M := by
  intro x3 x4 M hf H locs ls hI hl
  obtain ⟨hx, hb, hml, hr, hown, hts, hlk, hK, hap, hsx⟩ := id C
  unfold mX4_readStatement_b55 at hf
  refine lv_iload hx hb (dc tbX4_readStatement_0_k 30 rfl) (lv_at hl 4 rfl) ?_
  refine lv_iconst (v := 3) hx hb (dc tbX4_readStatement_0_k 31 rfl) ic_3 ?_
  refine lv_icmp_ge (tgt := 116) hx hb (dc tbX4_readStatement_0_k 32 rfl) rfl (fun c5 => ?_) (fun c5 => ?_)
  · have hf := ite_t c5 hf
    refine lv_iload_n hx hb (dc tbX4_readStatement_1_k 22 rfl) rfl (lv_at hl 3 rfl) ?_
    refine lv_if_ne (tgt := 131) hx hb (dc tbX4_readStatement_1_k 23 rfl) rfl (fun c6 => ?_) (fun c6 => ?_)
    · have hf := ite_f c6 hf
      exact tX4_readStatement_b131 C hk0 hk1 x3 M hf _ _ _ hI (lv_sub hl [0, 1, 2, 3] rfl)
    · have hf := ite_t c6 hf
      refine lv_aload_n hx hb (dc tbX4_readStatement_1_k 24 rfl) rfl (lv_at hl 0 rfl) ?_
      obtain ⟨M14, r13, q12, hf⟩ := cal_s hf
      refine g_callVv hx hb hml hown hts hK hap hsx hI (tX4_nextToken l hk0 q12 H.size) cv_X4_nextToken q_t5_114 rfl rfl ⟨Nat.le_of_ble_eq_true rfl, Nat.le_of_ble_eq_true rfl⟩ hk0.1 (by simp) rfl rfl rfl hl.1 rfl (Nat.le_of_ble_eq_true rfl) (dc tbX4_readStatement_1_k 25 rfl) ⟨Nat.le_of_ble_eq_true rfl, Nat.le_of_ble_eq_true rfl⟩ (fun H locs hI => ?_)
      refine lv_aload_n hx hb (dc tbX4_readStatement_1_k 26 rfl) rfl (lv_at hl 0 rfl) ?_
      refine lv_iconst (v := 4) hx hb (dc tbX4_readStatement_1_k 27 rfl) ic_4 ?_
      refine lv_iconst (v := 0) hx hb (dc tbX4_readStatement_1_k 28 rfl) ic_0 ?_
      obtain ⟨r16, q15, hf⟩ := cap_s hf
      refine g_callVi hx hb hml hown hts hK hap hsx hI (tX4_errorIfNot l hk0 q15 H.size) cv_X4_errorIfNot q_t5_165 rfl rfl ⟨Nat.le_of_ble_eq_true rfl, Nat.le_of_ble_eq_true rfl⟩ hk0.1 (by simp) rfl rfl rfl hl.1 rfl (Nat.le_of_ble_eq_true rfl) (dc tbX4_readStatement_1_k 29 rfl) ⟨Nat.le_of_ble_eq_true rfl, Nat.le_of_ble_eq_true rfl⟩ (fun H locs hI => ?_)
      refine lv_istore_n (lv' := [(3, .int r16), (0, .ref (ad k0)), (1, .ref (ad k1)), (2, .null), (4, .int x4)]) hx hb (dc tbX4_readStatement_1_k 30 rfl) rfl hl (by decide) rfl (fun ls hl => ?_)
      exact tX4_readStatement_b131 C hk0 hk1 r16 M14 hf _ _ _ hI (lv_sub hl [1, 2, 3, 0] rfl)
  · have hf := ite_f c5 hf
    refine lv_aload_n hx hb (dc tbX4_readStatement_0_k 33 rfl) rfl (lv_at hl 0 rfl) ?_
    refine gg4_8 hx hb hts hown hK hI hk0.1 q_t1_53 (dc tbX4_readStatement_0_k 34 rfl) ?_
    refine lv_iload hx hb (dc tbX4_readStatement_0_k 35 rfl) (lv_at hl 4 rfl) ?_
    refine lv_iconst (v := 0) hx hb (dc tbX4_readStatement_0_k 36 rfl) ic_0 ?_
    obtain ⟨h18, hf⟩ := chk_s hf
    obtain ⟨M20, e19, hf⟩ := bnd_s hf
    refine g_iast hx hb hK hap hI hk0.2.1 (okb_in h18) (dc tbX4_readStatement_0_k 37 rfl) e19 (fun H locs hI => ?_)
    refine lv_iload_n hx hb (dc tbX4_readStatement_0_k 38 rfl) rfl (lv_at hl 3 rfl) ?_
    refine lv_if_ne (tgt := 110) hx hb (dc tbX4_readStatement_0_k 39 rfl) rfl (fun c21 => ?_) (fun c21 => ?_)
    · have hf := ite_f c21 hf
      exact tX4_readStatement_b110 C hk0 hk1 hih55 x3 x4 M20 hf _ _ _ hI (lv_sub hl [0, 1, 2, 3, 4] rfl)
    · have hf := ite_t c21 hf
      refine lv_aload_nN hx hb (dc tbX4_readStatement_1_k 0 rfl) rfl (lv_at hl 2 rfl) ?_
      refine lv_ifnullN (tgt := 110) hx hb (dc tbX4_readStatement_1_k 1 rfl) rfl ?_
      exact tX4_readStatement_b110 C hk0 hk1 hih55 x3 x4 M20 hf _ _ _ hI (lv_sub hl [0, 1, 2, 3, 4] rfl)
def mX4_readStatement_l55 (k0 : Nat) (k1 : Nat) : Nat → Int32 → Int32 → Mem → Option (Mem × Unit)
  | 0 => fun _ _ _ => none
  | n + 1 => mX4_readStatement_b55 k0 k1 (mX4_readStatement_l55 k0 k1 n)
theorem tX4_readStatement_l55 {p : Program} {l : Launch} {e : Env} {s : State} {m : MethodId} {args : Array Value} {below : List Frame} {meth : Method} {c : Code} {G : GT} {kd : Nat → Nat × Nat} {ad : Nat → Nat} (C : Cx p s m args meth c cX4_readStatement 5 none RX4 G kd ad) {k0 : Nat} {k1 : Nat} (hk0 : kReader kd k0) (hk1 : kPart kd k1) {MO : Mem} {vo : Unit}   : ∀ (fuel : Nat) (x3 : Int32) (x4 : Int32) (M : Mem), mX4_readStatement_l55 k0 k1 fuel x3 x4 M = some (MO, vo) → At p l e (rmO 6 0 0) s m args below meth c 0 0 (MQ below (Qg G kd ad s.heap.size MO none) args s 0 0 (AS kd ad s.heap.size)) G kd ad 5 55 [(0, .ref (ad k0)), (1, .ref (ad k1)), (2, .null), (3, .int x3), (4, .int x4)] [] M := by
  intro fuel
  induction fuel with
  | zero => intro x3 x4 M hf; cases hf
  | succ n IH => exact tX4_readStatement_b55 C hk0 hk1 IH
def mX4_readStatement_b51 (k0 : Nat) (k1 : Nat) (y0 : Int32) (M : Mem) : Option (Mem × Unit) := mX4_readStatement_l55 k0 k1 5000 y0 (0 : Int32) M
set_option maxHeartbeats 4000000 in
set_option maxRecDepth 100000 in
theorem tX4_readStatement_b51 {p : Program} {l : Launch} {e : Env} {s : State} {m : MethodId} {args : Array Value} {below : List Frame} {meth : Method} {c : Code} {G : GT} {kd : Nat → Nat × Nat} {ad : Nat → Nat} (C : Cx p s m args meth c cX4_readStatement 5 none RX4 G kd ad) {k0 : Nat} {k1 : Nat} (hk0 : kReader kd k0) (hk1 : kPart kd k1) {MO : Mem} {vo : Unit}   : ∀ (y0 : Int32) (M : Mem), mX4_readStatement_b51 k0 k1 y0 M = some (MO, vo) → At p l e (rmO 6 0 0) s m args below meth c 0 0 (MQ below (Qg G kd ad s.heap.size MO none) args s 0 0 (AS kd ad s.heap.size)) G kd ad 5 51 [(0, .ref (ad k0)), (1, .ref (ad k1)), (2, .null)] [.int y0] M := by
  intro y0 M hf H locs ls hI hl
  obtain ⟨hx, hb, hml, hr, hown, hts, hlk, hK, hap, hsx⟩ := id C
  unfold mX4_readStatement_b51 at hf
  refine lv_istore_n (lv' := [(3, .int y0), (0, .ref (ad k0)), (1, .ref (ad k1)), (2, .null)]) hx hb (dc tbX4_readStatement_0_k 27 rfl) rfl hl (by decide) rfl (fun ls hl => ?_)
  refine lv_iconst (v := 0) hx hb (dc tbX4_readStatement_0_k 28 rfl) ic_0 ?_
  refine lv_istore (lv' := [(4, .int (0 : Int32)), (3, .int y0), (0, .ref (ad k0)), (1, .ref (ad k1)), (2, .null)]) hx hb (dc tbX4_readStatement_0_k 29 rfl) hl (by decide) rfl (fun ls hl => ?_)
  exact tX4_readStatement_l55 C hk0 hk1 5000 y0 (0 : Int32) M hf _ _ _ hI (lv_sub hl [2, 3, 4, 1, 0] rfl)
def mX4_readStatement_b32 (k0 : Nat) (k1 : Nat) (M : Mem) : Option (Mem × Unit) := cap (mX4_errorIfNot k0 (2 : Int32) (2 : Int32) M) (fun r3 => mX4_readStatement_b51 k0 k1 r3 M)
set_option maxHeartbeats 4000000 in
set_option maxRecDepth 100000 in
theorem tX4_readStatement_b32 {p : Program} {l : Launch} {e : Env} {s : State} {m : MethodId} {args : Array Value} {below : List Frame} {meth : Method} {c : Code} {G : GT} {kd : Nat → Nat × Nat} {ad : Nat → Nat} (C : Cx p s m args meth c cX4_readStatement 5 none RX4 G kd ad) {k0 : Nat} {k1 : Nat} (hk0 : kReader kd k0) (hk1 : kPart kd k1) {MO : Mem} {vo : Unit}   : ∀  (M : Mem), mX4_readStatement_b32 k0 k1 M = some (MO, vo) → At p l e (rmO 6 0 0) s m args below meth c 0 0 (MQ below (Qg G kd ad s.heap.size MO none) args s 0 0 (AS kd ad s.heap.size)) G kd ad 5 32 [(0, .ref (ad k0)), (1, .ref (ad k1))] [.null] M := by
  intro M hf H locs ls hI hl
  obtain ⟨hx, hb, hml, hr, hown, hts, hlk, hK, hap, hsx⟩ := id C
  unfold mX4_readStatement_b32 at hf
  refine lv_astore_nN (lv' := [(2, .null), (0, .ref (ad k0)), (1, .ref (ad k1))]) hx hb (dc tbX4_readStatement_0_k 16 rfl) rfl hl (by decide) rfl (fun ls hl => ?_)
  refine lv_aload_nN hx hb (dc tbX4_readStatement_0_k 17 rfl) rfl (lv_at hl 0 rfl) ?_
  refine lv_ifnonnullN hx hb (dc tbX4_readStatement_0_k 18 rfl) ?_
  refine lv_aload_n hx hb (dc tbX4_readStatement_0_k 19 rfl) rfl (lv_at hl 1 rfl) ?_
  refine lv_iconst (v := 2) hx hb (dc tbX4_readStatement_0_k 20 rfl) ic_2 ?_
  refine lv_iconst (v := 2) hx hb (dc tbX4_readStatement_0_k 21 rfl) ic_2 ?_
  obtain ⟨r3, q2, hf⟩ := cap_s hf
  refine g_callVi hx hb hml hown hts hK hap hsx hI (tX4_errorIfNot l hk0 q2 H.size) cv_X4_errorIfNot q_t5_165 rfl rfl ⟨Nat.le_of_ble_eq_true rfl, Nat.le_of_ble_eq_true rfl⟩ hk0.1 (by simp) rfl rfl rfl hl.1 rfl (Nat.le_of_ble_eq_true rfl) (dc tbX4_readStatement_0_k 22 rfl) ⟨Nat.le_of_ble_eq_true rfl, Nat.le_of_ble_eq_true rfl⟩ (fun H locs hI => ?_)
  refine lv_goto (tgt := 51) hx hb (dc tbX4_readStatement_0_k 23 rfl) rfl ?_
  exact tX4_readStatement_b51 C hk0 hk1 r3 M hf _ _ _ hI (lv_sub hl [1, 2, 0] rfl)
def mX4_readStatement_b131v1 (k0 : Nat) (k1 : Nat) (w2 : Nat) (x3 : Int32) (M : Mem) : Option (Mem × Unit) := ite2 (x3 = 0) (cal (mX4_accept k0 w2 k1 M) (fun M37 _ => some (M37, ()))) (mX4_readStatement_b148 k0 k1 x3 M)
set_option maxHeartbeats 4000000 in
set_option maxRecDepth 100000 in
theorem tX4_readStatement_b131v1 {p : Program} {l : Launch} {e : Env} {s : State} {m : MethodId} {args : Array Value} {below : List Frame} {meth : Method} {c : Code} {G : GT} {kd : Nat → Nat × Nat} {ad : Nat → Nat} (C : Cx p s m args meth c cX4_readStatement 5 none RX4 G kd ad) {k0 : Nat} {k1 : Nat} {w2 : Nat} (hk0 : kReader kd k0) (hk1 : kPart kd k1) (hw2 : w2 < 11) {MO : Mem} {vo : Unit}   : ∀ (x3 : Int32) (M : Mem), mX4_readStatement_b131v1 k0 k1 w2 x3 M = some (MO, vo) → At p l e (rmO 6 0 0) s m args below meth c 0 0 (MQ below (Qg G kd ad s.heap.size MO none) args s 0 0 (AS kd ad s.heap.size)) G kd ad 5 131 [(0, .ref (ad k0)), (1, .ref (ad k1)), (2, .ref (G.2.2 w2)), (3, .int x3)] [] M := by
  intro x3 M hf H locs ls hI hl
  obtain ⟨hx, hb, hml, hr, hown, hts, hlk, hK, hap, hsx⟩ := id C
  unfold mX4_readStatement_b131v1 at hf
  refine lv_iload_n hx hb (dc tbX4_readStatement_1_k 31 rfl) rfl (lv_at hl 3 rfl) ?_
  refine lv_if_ne (tgt := 148) hx hb (dc tbX4_readStatement_1_k 32 rfl) rfl (fun c34 => ?_) (fun c34 => ?_)
  · have hf := ite_f c34 hf
    exact tX4_readStatement_b148 C hk0 hk1 x3 M hf _ _ _ hI (lv_sub hl [0, 3] rfl)
  · have hf := ite_t c34 hf
    refine lv_aload_n hx hb (dc tbX4_readStatement_1_k 33 rfl) rfl (lv_at hl 2 rfl) ?_
    refine lv_ifnull hx hb (dc tbX4_readStatement_1_k 34 rfl) ?_
    refine lv_aload_n hx hb (dc tbX4_readStatement_1_k 35 rfl) rfl (lv_at hl 0 rfl) ?_
    refine lv_aload_n hx hb (dc tbX4_readStatement_1_k 36 rfl) rfl (lv_at hl 2 rfl) ?_
    refine lv_aload_n hx hb (dc tbX4_readStatement_1_k 37 rfl) rfl (lv_at hl 1 rfl) ?_
    obtain ⟨M37, r36, q35, hf⟩ := cal_s hf
    refine g_callVv hx hb hml hown hts hK hap hsx hI (tX4_accept l hk0 hw2 hk1 q35 H.size) cv_X4_accept q_t5_208 rfl rfl ⟨Nat.le_of_ble_eq_true rfl, Nat.le_of_ble_eq_true rfl⟩ hk0.1 (by simp) rfl rfl rfl hl.1 rfl (Nat.le_of_ble_eq_true rfl) (dc tbX4_readStatement_1_k 38 rfl) ⟨Nat.le_of_ble_eq_true rfl, Nat.le_of_ble_eq_true rfl⟩ (fun H locs hI => ?_)
    refine lv_goto (tgt := 161) hx hb (dc tbX4_readStatement_1_k 39 rfl) rfl ?_
    cases hf
    exact g_vret hx hb hr hlk hI (dc tbX4_readStatement_2_k 7 rfl)
def mX4_readStatement_b110v1 (k0 : Nat) (k1 : Nat) (w2 : Nat) (ih55v1 : Int32 → Int32 → Mem → Option (Mem × Unit)) (x3 : Int32) (x4 : Int32) (M : Mem) : Option (Mem × Unit) := bnd (x4 + (1 : Int32)) (fun x4_110 => ih55v1 x3 x4_110 M)
set_option maxHeartbeats 4000000 in
set_option maxRecDepth 100000 in
theorem tX4_readStatement_b110v1 {p : Program} {l : Launch} {e : Env} {s : State} {m : MethodId} {args : Array Value} {below : List Frame} {meth : Method} {c : Code} {G : GT} {kd : Nat → Nat × Nat} {ad : Nat → Nat} (C : Cx p s m args meth c cX4_readStatement 5 none RX4 G kd ad) {k0 : Nat} {k1 : Nat} {w2 : Nat} (hk0 : kReader kd k0) (hk1 : kPart kd k1) (hw2 : w2 < 11) {MO : Mem} {vo : Unit} {ih55v1 : Int32 → Int32 → Mem → Option (Mem × Unit)} (hih55v1 : ∀ (x3 : Int32) (x4 : Int32) (M : Mem), ih55v1 x3 x4 M = some (MO, vo) → At p l e (rmO 6 0 0) s m args below meth c 0 0 (MQ below (Qg G kd ad s.heap.size MO none) args s 0 0 (AS kd ad s.heap.size)) G kd ad 5 55 [(0, .ref (ad k0)), (1, .ref (ad k1)), (2, .ref (G.2.2 w2)), (3, .int x3), (4, .int x4)] [] M) : ∀ (x3 : Int32) (x4 : Int32) (M : Mem), mX4_readStatement_b110v1 k0 k1 w2 ih55v1 x3 x4 M = some (MO, vo) → At p l e (rmO 6 0 0) s m args below meth c 0 0 (MQ below (Qg G kd ad s.heap.size MO none) args s 0 0 (AS kd ad s.heap.size)) G kd ad 5 110 [(0, .ref (ad k0)), (1, .ref (ad k1)), (2, .ref (G.2.2 w2)), (3, .int x3), (4, .int x4)] [] M := by
  intro x3 x4 M hf H locs ls hI hl
  obtain ⟨hx, hb, hml, hr, hown, hts, hlk, hK, hap, hsx⟩ := id C
  unfold mX4_readStatement_b110v1 at hf
  obtain ⟨x4_110, e48, hf⟩ := bnd_s hf
  refine lv_iinc (v := x4_110) (lv' := [(4, .int x4_110), (0, .ref (ad k0)), (1, .ref (ad k1)), (2, .ref (G.2.2 w2)), (3, .int x3)]) hx hb (dc tbX4_readStatement_1_k 20 rfl) hl (k := 4) rfl (ii_e e48 ic_1) (by decide) rfl (fun ls hl => ?_)
  refine lv_goto (tgt := 55) hx hb (dc tbX4_readStatement_1_k 21 rfl) rfl ?_
  exact hih55v1 x3 x4_110 M hf _ _ _ hI (lv_sub hl [1, 2, 3, 4, 0] rfl)
def mX4_readStatement_b55v1 (k0 : Nat) (k1 : Nat) (w2 : Nat) (ih55v1 : Int32 → Int32 → Mem → Option (Mem × Unit)) (x3 : Int32) (x4 : Int32) (M : Mem) : Option (Mem × Unit) := ite2 ((3 : Int32) ≤ x4) (ite2 (x3 = 0) (cal (mX4_nextToken k0 M) (fun M40 _ => cap (mX4_errorIfNot k0 (4 : Int32) (0 : Int32) M40) (fun r42 => mX4_readStatement_b131v1 k0 k1 w2 r42 M40))) (mX4_readStatement_b131v1 k0 k1 w2 x3 M)) (chk (okb x4 3) (bnd (wr M (k0 + 1) (x4).toNatClampNeg (0 : Int32)) (fun M46 => ite2 (x3 = 0) (cap (mX5_numberCount w2 M46) (fun r50 => ite2 (r50 ≤ x4) (mX4_readStatement_b110v1 k0 k1 w2 ih55v1 x3 x4 M46) (cal (mX4_nextToken k0 M46) (fun M55 _ => cap (mX4_errorOfNumber k0 w2 k1 x4 M55) (fun r57 => chk (okb x4 3) (bnd (wr M55 (k0 + 1) (x4).toNatClampNeg (rd M55 k0 7)) (fun M61 => mX4_readStatement_b110v1 k0 k1 w2 ih55v1 r57 x4 M61))))))) (mX4_readStatement_b110v1 k0 k1 w2 ih55v1 x3 x4 M46))))
set_option maxHeartbeats 4000000 in
set_option maxRecDepth 100000 in
theorem tX4_readStatement_b55v1 {p : Program} {l : Launch} {e : Env} {s : State} {m : MethodId} {args : Array Value} {below : List Frame} {meth : Method} {c : Code} {G : GT} {kd : Nat → Nat × Nat} {ad : Nat → Nat} (C : Cx p s m args meth c cX4_readStatement 5 none RX4 G kd ad) {k0 : Nat} {k1 : Nat} {w2 : Nat} (hk0 : kReader kd k0) (hk1 : kPart kd k1) (hw2 : w2 < 11) {MO : Mem} {vo : Unit} {ih55v1 : Int32 → Int32 → Mem → Option (Mem × Unit)} (hih55v1 : ∀ (x3 : Int32) (x4 : Int32) (M : Mem), ih55v1 x3 x4 M = some (MO, vo) → At p l e (rmO 6 0 0) s m args below meth c 0 0 (MQ below (Qg G kd ad s.heap.size MO none) args s 0 0 (AS kd ad s.heap.size)) G kd ad 5 55 [(0, .ref (ad k0)), (1, .ref (ad k1)), (2, .ref (G.2.2 w2)), (3, .int x3), (4, .int x4)] [] M) : ∀ (x3 : Int32) (x4 : Int32) (M : Mem), mX4_readStatement_b55v1 k0 k1 w2 ih55v1 x3 x4 M = some (MO, vo) → At p l e (rmO 6 0 0) s m args below meth c 0 0 (MQ below (Qg G kd ad s.heap.size MO none) args s 0 0 (AS kd ad s.heap.size)) G kd ad 5 55 [(0, .ref (ad k0)), (1, .ref (ad k1)), (2, .ref (G.2.2 w2)), (3, .int x3), (4, .int x4)] [] M := by
  intro x3 x4 M hf H locs ls hI hl
  obtain ⟨hx, hb, hml, hr, hown, hts, hlk, hK, hap, hsx⟩ := id C
  unfold mX4_readStatement_b55v1 at hf
  refine lv_iload hx hb (dc tbX4_readStatement_0_k 30 rfl) (lv_at hl 4 rfl) ?_
  refine lv_iconst (v := 3) hx hb (dc tbX4_readStatement_0_k 31 rfl) ic_3 ?_
  refine lv_icmp_ge (tgt := 116) hx hb (dc tbX4_readStatement_0_k 32 rfl) rfl (fun c32 => ?_) (fun c32 => ?_)
  · have hf := ite_t c32 hf
    refine lv_iload_n hx hb (dc tbX4_readStatement_1_k 22 rfl) rfl (lv_at hl 3 rfl) ?_
    refine lv_if_ne (tgt := 131) hx hb (dc tbX4_readStatement_1_k 23 rfl) rfl (fun c33 => ?_) (fun c33 => ?_)
    · have hf := ite_f c33 hf
      exact tX4_readStatement_b131v1 C hk0 hk1 hw2 x3 M hf _ _ _ hI (lv_sub hl [0, 1, 2, 3] rfl)
    · have hf := ite_t c33 hf
      refine lv_aload_n hx hb (dc tbX4_readStatement_1_k 24 rfl) rfl (lv_at hl 0 rfl) ?_
      obtain ⟨M40, r39, q38, hf⟩ := cal_s hf
      refine g_callVv hx hb hml hown hts hK hap hsx hI (tX4_nextToken l hk0 q38 H.size) cv_X4_nextToken q_t5_114 rfl rfl ⟨Nat.le_of_ble_eq_true rfl, Nat.le_of_ble_eq_true rfl⟩ hk0.1 (by simp) rfl rfl rfl hl.1 rfl (Nat.le_of_ble_eq_true rfl) (dc tbX4_readStatement_1_k 25 rfl) ⟨Nat.le_of_ble_eq_true rfl, Nat.le_of_ble_eq_true rfl⟩ (fun H locs hI => ?_)
      refine lv_aload_n hx hb (dc tbX4_readStatement_1_k 26 rfl) rfl (lv_at hl 0 rfl) ?_
      refine lv_iconst (v := 4) hx hb (dc tbX4_readStatement_1_k 27 rfl) ic_4 ?_
      refine lv_iconst (v := 0) hx hb (dc tbX4_readStatement_1_k 28 rfl) ic_0 ?_
      obtain ⟨r42, q41, hf⟩ := cap_s hf
      refine g_callVi hx hb hml hown hts hK hap hsx hI (tX4_errorIfNot l hk0 q41 H.size) cv_X4_errorIfNot q_t5_165 rfl rfl ⟨Nat.le_of_ble_eq_true rfl, Nat.le_of_ble_eq_true rfl⟩ hk0.1 (by simp) rfl rfl rfl hl.1 rfl (Nat.le_of_ble_eq_true rfl) (dc tbX4_readStatement_1_k 29 rfl) ⟨Nat.le_of_ble_eq_true rfl, Nat.le_of_ble_eq_true rfl⟩ (fun H locs hI => ?_)
      refine lv_istore_n (lv' := [(3, .int r42), (0, .ref (ad k0)), (1, .ref (ad k1)), (2, .ref (G.2.2 w2)), (4, .int x4)]) hx hb (dc tbX4_readStatement_1_k 30 rfl) rfl hl (by decide) rfl (fun ls hl => ?_)
      exact tX4_readStatement_b131v1 C hk0 hk1 hw2 r42 M40 hf _ _ _ hI (lv_sub hl [1, 2, 3, 0] rfl)
  · have hf := ite_f c32 hf
    refine lv_aload_n hx hb (dc tbX4_readStatement_0_k 33 rfl) rfl (lv_at hl 0 rfl) ?_
    refine gg4_8 hx hb hts hown hK hI hk0.1 q_t1_53 (dc tbX4_readStatement_0_k 34 rfl) ?_
    refine lv_iload hx hb (dc tbX4_readStatement_0_k 35 rfl) (lv_at hl 4 rfl) ?_
    refine lv_iconst (v := 0) hx hb (dc tbX4_readStatement_0_k 36 rfl) ic_0 ?_
    obtain ⟨h44, hf⟩ := chk_s hf
    obtain ⟨M46, e45, hf⟩ := bnd_s hf
    refine g_iast hx hb hK hap hI hk0.2.1 (okb_in h44) (dc tbX4_readStatement_0_k 37 rfl) e45 (fun H locs hI => ?_)
    refine lv_iload_n hx hb (dc tbX4_readStatement_0_k 38 rfl) rfl (lv_at hl 3 rfl) ?_
    refine lv_if_ne (tgt := 110) hx hb (dc tbX4_readStatement_0_k 39 rfl) rfl (fun c47 => ?_) (fun c47 => ?_)
    · have hf := ite_f c47 hf
      exact tX4_readStatement_b110v1 C hk0 hk1 hw2 hih55v1 x3 x4 M46 hf _ _ _ hI (lv_sub hl [0, 1, 2, 3, 4] rfl)
    · have hf := ite_t c47 hf
      refine lv_aload_n hx hb (dc tbX4_readStatement_1_k 0 rfl) rfl (lv_at hl 2 rfl) ?_
      refine lv_ifnull hx hb (dc tbX4_readStatement_1_k 1 rfl) ?_
      refine lv_iload hx hb (dc tbX4_readStatement_1_k 2 rfl) (lv_at hl 4 rfl) ?_
      refine lv_aload_n hx hb (dc tbX4_readStatement_1_k 3 rfl) rfl (lv_at hl 2 rfl) ?_
      obtain ⟨r50, q49, hf⟩ := cap_s hf
      refine g_callWi hx hb hml hown hts hK hap hsx hI (tX5_numberCount l hw2 q49 H.size) cv_X5_numberCount q_t5_185 rfl rfl ⟨Nat.le_of_ble_eq_true rfl, Nat.le_of_ble_eq_true rfl⟩ hw2 rfl hl.1 rfl (Nat.le_of_ble_eq_true rfl) (dc tbX4_readStatement_1_k 4 rfl) ⟨Nat.le_of_ble_eq_true rfl, Nat.le_of_ble_eq_true rfl⟩ (fun H locs hI => ?_)
      refine lv_icmp_ge (tgt := 110) hx hb (dc tbX4_readStatement_1_k 5 rfl) rfl (fun c52 => ?_) (fun c52 => ?_)
      · have hf := ite_t c52 hf
        exact tX4_readStatement_b110v1 C hk0 hk1 hw2 hih55v1 x3 x4 M46 hf _ _ _ hI (lv_sub hl [0, 1, 2, 3, 4] rfl)
      · have hf := ite_f c52 hf
        refine lv_aload_n hx hb (dc tbX4_readStatement_1_k 6 rfl) rfl (lv_at hl 0 rfl) ?_
        obtain ⟨M55, r54, q53, hf⟩ := cal_s hf
        refine g_callVv hx hb hml hown hts hK hap hsx hI (tX4_nextToken l hk0 q53 H.size) cv_X4_nextToken q_t5_114 rfl rfl ⟨Nat.le_of_ble_eq_true rfl, Nat.le_of_ble_eq_true rfl⟩ hk0.1 (by simp) rfl rfl rfl hl.1 rfl (Nat.le_of_ble_eq_true rfl) (dc tbX4_readStatement_1_k 7 rfl) ⟨Nat.le_of_ble_eq_true rfl, Nat.le_of_ble_eq_true rfl⟩ (fun H locs hI => ?_)
        refine lv_aload_n hx hb (dc tbX4_readStatement_1_k 8 rfl) rfl (lv_at hl 0 rfl) ?_
        refine lv_aload_n hx hb (dc tbX4_readStatement_1_k 9 rfl) rfl (lv_at hl 2 rfl) ?_
        refine lv_iload hx hb (dc tbX4_readStatement_1_k 10 rfl) (lv_at hl 4 rfl) ?_
        refine lv_aload_n hx hb (dc tbX4_readStatement_1_k 11 rfl) rfl (lv_at hl 1 rfl) ?_
        obtain ⟨r57, q56, hf⟩ := cap_s hf
        refine g_callVi hx hb hml hown hts hK hap hsx hI (tX4_errorOfNumber l hk0 hw2 hk1 q56 H.size) cv_X4_errorOfNumber q_t5_189 rfl rfl ⟨Nat.le_of_ble_eq_true rfl, Nat.le_of_ble_eq_true rfl⟩ hk0.1 (by simp) rfl rfl rfl hl.1 rfl (Nat.le_of_ble_eq_true rfl) (dc tbX4_readStatement_1_k 12 rfl) ⟨Nat.le_of_ble_eq_true rfl, Nat.le_of_ble_eq_true rfl⟩ (fun H locs hI => ?_)
        refine lv_istore_n (lv' := [(3, .int r57), (0, .ref (ad k0)), (1, .ref (ad k1)), (2, .ref (G.2.2 w2)), (4, .int x4)]) hx hb (dc tbX4_readStatement_1_k 13 rfl) rfl hl (by decide) rfl (fun ls hl => ?_)
        refine lv_aload_n hx hb (dc tbX4_readStatement_1_k 14 rfl) rfl (lv_at hl 1 rfl) ?_
        refine gg4_8 hx hb hts hown hK hI hk0.1 q_t1_53 (dc tbX4_readStatement_1_k 15 rfl) ?_
        refine lv_iload hx hb (dc tbX4_readStatement_1_k 16 rfl) (lv_at hl 4 rfl) ?_
        refine lv_aload_n hx hb (dc tbX4_readStatement_1_k 17 rfl) rfl (lv_at hl 1 rfl) ?_
        refine gg4_7 hx hb hts hown hK hI hk0.1 q_t1_52 (dc tbX4_readStatement_1_k 18 rfl) ?_
        obtain ⟨h59, hf⟩ := chk_s hf
        obtain ⟨M61, e60, hf⟩ := bnd_s hf
        refine g_iast hx hb hK hap hI hk0.2.1 (okb_in h59) (dc tbX4_readStatement_1_k 19 rfl) e60 (fun H locs hI => ?_)
        exact tX4_readStatement_b110v1 C hk0 hk1 hw2 hih55v1 r57 x4 M61 hf _ _ _ hI (lv_sub hl [1, 2, 3, 0, 4] rfl)
def mX4_readStatement_l55v1 (k0 : Nat) (k1 : Nat) (w2 : Nat) : Nat → Int32 → Int32 → Mem → Option (Mem × Unit)
  | 0 => fun _ _ _ => none
  | n + 1 => mX4_readStatement_b55v1 k0 k1 w2 (mX4_readStatement_l55v1 k0 k1 w2 n)
theorem tX4_readStatement_l55v1 {p : Program} {l : Launch} {e : Env} {s : State} {m : MethodId} {args : Array Value} {below : List Frame} {meth : Method} {c : Code} {G : GT} {kd : Nat → Nat × Nat} {ad : Nat → Nat} (C : Cx p s m args meth c cX4_readStatement 5 none RX4 G kd ad) {k0 : Nat} {k1 : Nat} {w2 : Nat} (hk0 : kReader kd k0) (hk1 : kPart kd k1) (hw2 : w2 < 11) {MO : Mem} {vo : Unit}   : ∀ (fuel : Nat) (x3 : Int32) (x4 : Int32) (M : Mem), mX4_readStatement_l55v1 k0 k1 w2 fuel x3 x4 M = some (MO, vo) → At p l e (rmO 6 0 0) s m args below meth c 0 0 (MQ below (Qg G kd ad s.heap.size MO none) args s 0 0 (AS kd ad s.heap.size)) G kd ad 5 55 [(0, .ref (ad k0)), (1, .ref (ad k1)), (2, .ref (G.2.2 w2)), (3, .int x3), (4, .int x4)] [] M := by
  intro fuel
  induction fuel with
  | zero => intro x3 x4 M hf; cases hf
  | succ n IH => exact tX4_readStatement_b55v1 C hk0 hk1 hw2 IH
def mX4_readStatement_b51v1 (k0 : Nat) (k1 : Nat) (w2 : Nat) (y0 : Int32) (M : Mem) : Option (Mem × Unit) := mX4_readStatement_l55v1 k0 k1 w2 5000 y0 (0 : Int32) M
set_option maxHeartbeats 4000000 in
set_option maxRecDepth 100000 in
theorem tX4_readStatement_b51v1 {p : Program} {l : Launch} {e : Env} {s : State} {m : MethodId} {args : Array Value} {below : List Frame} {meth : Method} {c : Code} {G : GT} {kd : Nat → Nat × Nat} {ad : Nat → Nat} (C : Cx p s m args meth c cX4_readStatement 5 none RX4 G kd ad) {k0 : Nat} {k1 : Nat} {w2 : Nat} (hk0 : kReader kd k0) (hk1 : kPart kd k1) (hw2 : w2 < 11) {MO : Mem} {vo : Unit}   : ∀ (y0 : Int32) (M : Mem), mX4_readStatement_b51v1 k0 k1 w2 y0 M = some (MO, vo) → At p l e (rmO 6 0 0) s m args below meth c 0 0 (MQ below (Qg G kd ad s.heap.size MO none) args s 0 0 (AS kd ad s.heap.size)) G kd ad 5 51 [(0, .ref (ad k0)), (1, .ref (ad k1)), (2, .ref (G.2.2 w2))] [.int y0] M := by
  intro y0 M hf H locs ls hI hl
  obtain ⟨hx, hb, hml, hr, hown, hts, hlk, hK, hap, hsx⟩ := id C
  unfold mX4_readStatement_b51v1 at hf
  refine lv_istore_n (lv' := [(3, .int y0), (0, .ref (ad k0)), (1, .ref (ad k1)), (2, .ref (G.2.2 w2))]) hx hb (dc tbX4_readStatement_0_k 27 rfl) rfl hl (by decide) rfl (fun ls hl => ?_)
  refine lv_iconst (v := 0) hx hb (dc tbX4_readStatement_0_k 28 rfl) ic_0 ?_
  refine lv_istore (lv' := [(4, .int (0 : Int32)), (3, .int y0), (0, .ref (ad k0)), (1, .ref (ad k1)), (2, .ref (G.2.2 w2))]) hx hb (dc tbX4_readStatement_0_k 29 rfl) hl (by decide) rfl (fun ls hl => ?_)
  exact tX4_readStatement_l55v1 C hk0 hk1 hw2 5000 y0 (0 : Int32) M hf _ _ _ hI (lv_sub hl [2, 3, 4, 1, 0] rfl)
def mX4_readStatement_b32v1 (k0 : Nat) (k1 : Nat) (ws0 : Nat) (M : Mem) : Option (Mem × Unit) := cap (mX4_errorOfWord ws0 k1 M) (fun r30 => mX4_readStatement_b51v1 k0 k1 ws0 r30 M)
set_option maxHeartbeats 4000000 in
set_option maxRecDepth 100000 in
theorem tX4_readStatement_b32v1 {p : Program} {l : Launch} {e : Env} {s : State} {m : MethodId} {args : Array Value} {below : List Frame} {meth : Method} {c : Code} {G : GT} {kd : Nat → Nat × Nat} {ad : Nat → Nat} (C : Cx p s m args meth c cX4_readStatement 5 none RX4 G kd ad) {k0 : Nat} {k1 : Nat} {ws0 : Nat} (hk0 : kReader kd k0) (hk1 : kPart kd k1) (hws0 : ws0 < 11) {MO : Mem} {vo : Unit}   : ∀  (M : Mem), mX4_readStatement_b32v1 k0 k1 ws0 M = some (MO, vo) → At p l e (rmO 6 0 0) s m args below meth c 0 0 (MQ below (Qg G kd ad s.heap.size MO none) args s 0 0 (AS kd ad s.heap.size)) G kd ad 5 32 [(0, .ref (ad k0)), (1, .ref (ad k1))] [.ref (G.2.2 ws0)] M := by
  intro M hf H locs ls hI hl
  obtain ⟨hx, hb, hml, hr, hown, hts, hlk, hK, hap, hsx⟩ := id C
  unfold mX4_readStatement_b32v1 at hf
  refine lv_astore_n (lv' := [(2, .ref (G.2.2 ws0)), (0, .ref (ad k0)), (1, .ref (ad k1))]) hx hb (dc tbX4_readStatement_0_k 16 rfl) rfl hl (by decide) rfl (fun ls hl => ?_)
  refine lv_aload_n hx hb (dc tbX4_readStatement_0_k 17 rfl) rfl (lv_at hl 0 rfl) ?_
  refine lv_ifnonnull (tgt := 46) hx hb (dc tbX4_readStatement_0_k 18 rfl) rfl ?_
  refine lv_aload_n hx hb (dc tbX4_readStatement_0_k 24 rfl) rfl (lv_at hl 0 rfl) ?_
  refine lv_aload_n hx hb (dc tbX4_readStatement_0_k 25 rfl) rfl (lv_at hl 2 rfl) ?_
  obtain ⟨r30, q29, hf⟩ := cap_s hf
  refine g_callSi hx hb hml hown hts hK hap hsx hI (tX4_errorOfWord l hws0 hk1 q29 H.size) cs_X4_errorOfWord q_t5_169 rfl rfl ⟨Nat.le_of_ble_eq_true rfl, Nat.le_of_ble_eq_true rfl⟩ rfl hl.1 rfl (Nat.le_of_ble_eq_true rfl) (dc tbX4_readStatement_0_k 26 rfl) ⟨Nat.le_of_ble_eq_true rfl, Nat.le_of_ble_eq_true rfl⟩ (fun H locs hI => ?_)
  exact tX4_readStatement_b51v1 C hk0 hk1 hws0 r30 M hf _ _ _ hI (lv_sub hl [1, 2, 0] rfl)
def mX4_readStatement (k0 : Nat) (k1 : Nat) (M : Mem) : Option (Mem × Unit) := ite2 ((rd M k0 6) = (2 : Int32)) (chk (decide (rd M k0 2 = 1)) (cap (mX5_find 1 (rd M k0 4) ((rd M k0 5) - (rd M k0 4)) M) (fun r25 => opt r25 (mX4_readStatement_b32 k0 k1 M) (fun w27 => chk (decide (w27 < 11)) (mX4_readStatement_b32v1 k0 k1 w27 M))))) (mX4_readStatement_b32 k0 k1 M)
set_option maxHeartbeats 4000000 in
set_option maxRecDepth 100000 in
theorem tX4_readStatement (l : Launch) {G : GT} {kd : Nat → Nat × Nat} {ad : Nat → Nat} {k0 : Nat} {k1 : Nat} (hk0 : kReader kd k0) (hk1 : kPart kd k1) {M : Mem} {MO : Mem} {vo : Unit} (hf : mX4_readStatement k0 k1 M = some (MO, vo)) (n : Nat) : Met l yX4_readStatement (Cond.code yX4_readStatement cX4_readStatement 5 none :: WA) (rmO 6 0 0) (Pg G kd ad n [.ref (ad k0), .ref (ad k1)] M) (Qg G kd ad n MO none) 0 0 (AS kd ad n) := by
  refine g_body (own := RX4) (by decide) rfl ?_ (Nat.le_of_ble_eq_true rfl)
  intro p e s m args below meth c C _ H locs ls hI hl
  obtain ⟨hx, hb, hml, hr, hown, hts, hlk, hK, hap, hsx⟩ := id C
  have hl : lv_has ls 5 [(0, .ref (ad k0)), (1, .ref (ad k1))] := hl
  unfold mX4_readStatement at hf
  refine lv_aload_n hx hb (dc tbX4_readStatement_0_k 0 rfl) rfl (lv_at hl 0 rfl) ?_
  refine gg4_6 hx hb hts hown hK hI hk0.1 q_t1_51 (dc tbX4_readStatement_0_k 1 rfl) ?_
  refine lv_iconst (v := 2) hx hb (dc tbX4_readStatement_0_k 2 rfl) ic_2 ?_
  refine lv_icmp_ne (tgt := 31) hx hb (dc tbX4_readStatement_0_k 3 rfl) rfl (fun c1 => ?_) (fun c1 => ?_)
  · have hf := ite_f c1 hf
    refine lv_null hx hb (dc tbX4_readStatement_0_k 15 rfl) ?_
    exact tX4_readStatement_b32 C hk0 hk1 M hf _ _ _ hI (lv_sub hl [0, 1] rfl)
  · have hf := ite_t c1 hf
    refine lv_aload_n hx hb (dc tbX4_readStatement_0_k 4 rfl) rfl (lv_at hl 0 rfl) ?_
    obtain ⟨h23, hf⟩ := chk_s hf
    refine gg4_2 hx hb hts hown hK hI hk0.1 q_t1_47 (dc tbX4_readStatement_0_k 5 rfl) ?_
    rw [byt_b h23]
    refine lv_aload_n hx hb (dc tbX4_readStatement_0_k 6 rfl) rfl (lv_at hl 0 rfl) ?_
    refine gg4_4 hx hb hts hown hK hI hk0.1 q_t1_49 (dc tbX4_readStatement_0_k 7 rfl) ?_
    refine lv_aload_n hx hb (dc tbX4_readStatement_0_k 8 rfl) rfl (lv_at hl 0 rfl) ?_
    refine gg4_5 hx hb hts hown hK hI hk0.1 q_t1_50 (dc tbX4_readStatement_0_k 9 rfl) ?_
    refine lv_aload_n hx hb (dc tbX4_readStatement_0_k 10 rfl) rfl (lv_at hl 0 rfl) ?_
    refine gg4_4 hx hb hts hown hK hI hk0.1 q_t1_49 (dc tbX4_readStatement_0_k 11 rfl) ?_
    refine lv_isub hx hb (dc tbX4_readStatement_0_k 12 rfl) ?_
    obtain ⟨r25, q24, hf⟩ := cap_s hf
    refine g_callSr hx hb hml hown hts hK hap hsx hI (tX5_find l hk0.2.2 q24 H.size) cs_X5_find q_t5_139 rfl rfl ⟨Nat.le_of_ble_eq_true rfl, Nat.le_of_ble_eq_true rfl⟩ rfl hl.1 rfl (Nat.le_of_ble_eq_true rfl) (dc tbX4_readStatement_0_k 13 rfl) ⟨Nat.le_of_ble_eq_true rfl, Nat.le_of_ble_eq_true rfl⟩ (fun H locs hI => ?_)
    rcases opt_s hf with ⟨e62, g63⟩ | ⟨w27, e62, g63⟩
    · subst e62
      have hf := g63
      refine lv_wn ?_
      refine lv_goto (tgt := 32) hx hb (dc tbX4_readStatement_0_k 14 rfl) rfl ?_
      exact tX4_readStatement_b32 C hk0 hk1 M hf _ _ _ hI (lv_sub hl [0, 1] rfl)
    · subst e62
      obtain ⟨h28, hf⟩ := chk_s g63
      refine lv_ws ?_
      refine lv_goto (tgt := 32) hx hb (dc tbX4_readStatement_0_k 14 rfl) rfl ?_
      exact tX4_readStatement_b32v1 C hk0 hk1 (of_decide_eq_true h28) M hf _ _ _ hI (lv_sub hl [0, 1] rfl)
theorem cv_X4_readStatement : cvF RX4 yX4_readStatement cX4_readStatement 5 none 1 := ⟨q_t5_137, q_s2_6, q_t1_2, q_t5_138, by decide +kernel⟩
def mX4_readText_b84 (k0 : Nat) (k1 : Nat) (k2 : Nat) (M : Mem) : Option (Mem × Int32) := ite2 ((rd M k0 0) = 0) (some (M, (1 : Int32))) (some (M, (0 : Int32)))
set_option maxHeartbeats 4000000 in
set_option maxRecDepth 100000 in
theorem tX4_readText_b84 {p : Program} {l : Launch} {e : Env} {s : State} {m : MethodId} {args : Array Value} {below : List Frame} {meth : Method} {c : Code} {G : GT} {kd : Nat → Nat × Nat} {ad : Nat → Nat} (C : Cx p s m args meth c cX4_readText 5 (some .boolean) RX4 G kd ad) {k0 : Nat} {k1 : Nat} {k2 : Nat} (hk0 : kReader kd k0) (hk1 : kd k1 = (11, 600)) (hk2 : kPart kd k2) {MO : Mem} {vo : Int32}   : ∀  (M : Mem), mX4_readText_b84 k0 k1 k2 M = some (MO, vo) → At p l e (rmO 7 0 0) s m args below meth c 0 0 (MQ below (Qg G kd ad s.heap.size MO (some (.int vo))) args s 0 0 (AS kd ad s.heap.size)) G kd ad 5 84 [(0, .ref (ad k0))] [] M := by
  intro M hf H locs ls hI hl
  obtain ⟨hx, hb, hml, hr, hown, hts, hlk, hK, hap, hsx⟩ := id C
  unfold mX4_readText_b84 at hf
  refine lv_aload_n hx hb (dc tbX4_readText_1_k 4 rfl) rfl (lv_at hl 0 rfl) ?_
  refine gg4_0 hx hb hts hown hK hI hk0.1 q_t1_43 (dc tbX4_readText_1_k 5 rfl) ?_
  refine lv_if_ne (tgt := 95) hx hb (dc tbX4_readText_1_k 6 rfl) rfl (fun c20 => ?_) (fun c20 => ?_)
  · have hf := ite_f c20 hf
    refine lv_iconst (v := 0) hx hb (dc tbX4_readText_1_k 9 rfl) ic_0 ?_
    cases hf
    exact g_zret hx hb hr hlk hI rfl (dc tbX4_readText_1_k 10 rfl)
  · have hf := ite_t c20 hf
    refine lv_iconst (v := 1) hx hb (dc tbX4_readText_1_k 7 rfl) ic_1 ?_
    refine lv_goto (tgt := 96) hx hb (dc tbX4_readText_1_k 8 rfl) rfl ?_
    cases hf
    exact g_zret hx hb hr hlk hI rfl (dc tbX4_readText_1_k 10 rfl)
def mX4_readText_b47 (k0 : Nat) (k1 : Nat) (k2 : Nat) (ih47 : Int32 → Mem → Option (Mem × Int32)) (x4 : Int32) (M : Mem) : Option (Mem × Int32) := ite2 ((600 : Int32) ≤ x4) (mX4_readText_b84 k0 k1 k2 M) (ite2 ((rd M k0 6) = 0) (mX4_readText_b84 k0 k1 k2 M) (ite2 ((rd M k0 0) = 0) (cal (mX4_readStatement k0 k2 M) (fun M25 _ => cal (mX4_nextToken k0 M25) (fun M28 _ => bnd (x4 + (1 : Int32)) (fun x4_78 => ih47 x4_78 M28)))) (mX4_readText_b84 k0 k1 k2 M)))
set_option maxHeartbeats 4000000 in
set_option maxRecDepth 100000 in
theorem tX4_readText_b47 {p : Program} {l : Launch} {e : Env} {s : State} {m : MethodId} {args : Array Value} {below : List Frame} {meth : Method} {c : Code} {G : GT} {kd : Nat → Nat × Nat} {ad : Nat → Nat} (C : Cx p s m args meth c cX4_readText 5 (some .boolean) RX4 G kd ad) {k0 : Nat} {k1 : Nat} {k2 : Nat} (hk0 : kReader kd k0) (hk1 : kd k1 = (11, 600)) (hk2 : kPart kd k2) {MO : Mem} {vo : Int32} {ih47 : Int32 → Mem → Option (Mem × Int32)} (hih47 : ∀ (x4 : Int32) (M : Mem), ih47 x4 M = some (MO, vo) → At p l e (rmO 7 0 0) s m args below meth c 0 0 (MQ below (Qg G kd ad s.heap.size MO (some (.int vo))) args s 0 0 (AS kd ad s.heap.size)) G kd ad 5 47 [(0, .ref (ad k0)), (3, .ref (ad k2)), (4, .int x4)] [] M) : ∀ (x4 : Int32) (M : Mem), mX4_readText_b47 k0 k1 k2 ih47 x4 M = some (MO, vo) → At p l e (rmO 7 0 0) s m args below meth c 0 0 (MQ below (Qg G kd ad s.heap.size MO (some (.int vo))) args s 0 0 (AS kd ad s.heap.size)) G kd ad 5 47 [(0, .ref (ad k0)), (3, .ref (ad k2)), (4, .int x4)] [] M := by
  intro x4 M hf H locs ls hI hl
  obtain ⟨hx, hb, hml, hr, hown, hts, hlk, hK, hap, hsx⟩ := id C
  unfold mX4_readText_b47 at hf
  refine lv_iload hx hb (dc tbX4_readText_0_k 28 rfl) (lv_at hl 2 rfl) ?_
  refine lv_sipush (v := 600) hx hb (dc tbX4_readText_0_k 29 rfl) sp_600 ?_
  refine lv_icmp_ge (tgt := 84) hx hb (dc tbX4_readText_0_k 30 rfl) rfl (fun c19 => ?_) (fun c19 => ?_)
  · have hf := ite_t c19 hf
    exact tX4_readText_b84 C hk0 hk1 hk2 M hf _ _ _ hI (lv_sub hl [0] rfl)
  · have hf := ite_f c19 hf
    refine lv_aload_n hx hb (dc tbX4_readText_0_k 31 rfl) rfl (lv_at hl 0 rfl) ?_
    refine gg4_6 hx hb hts hown hK hI hk0.1 q_t1_51 (dc tbX4_readText_0_k 32 rfl) ?_
    refine lv_if_eq (tgt := 84) hx hb (dc tbX4_readText_0_k 33 rfl) rfl (fun c21 => ?_) (fun c21 => ?_)
    · have hf := ite_t c21 hf
      exact tX4_readText_b84 C hk0 hk1 hk2 M hf _ _ _ hI (lv_sub hl [0] rfl)
    · have hf := ite_f c21 hf
      refine lv_aload_n hx hb (dc tbX4_readText_0_k 34 rfl) rfl (lv_at hl 0 rfl) ?_
      refine gg4_0 hx hb hts hown hK hI hk0.1 q_t1_43 (dc tbX4_readText_0_k 35 rfl) ?_
      refine lv_if_ne (tgt := 84) hx hb (dc tbX4_readText_0_k 36 rfl) rfl (fun c22 => ?_) (fun c22 => ?_)
      · have hf := ite_f c22 hf
        exact tX4_readText_b84 C hk0 hk1 hk2 M hf _ _ _ hI (lv_sub hl [0] rfl)
      · have hf := ite_t c22 hf
        refine lv_aload_n hx hb (dc tbX4_readText_0_k 37 rfl) rfl (lv_at hl 0 rfl) ?_
        refine lv_aload_n hx hb (dc tbX4_readText_0_k 38 rfl) rfl (lv_at hl 1 rfl) ?_
        obtain ⟨M25, r24, q23, hf⟩ := cal_s hf
        refine g_callVv hx hb hml hown hts hK hap hsx hI (tX4_readStatement l hk0 hk2 q23 H.size) cv_X4_readStatement q_t5_135 rfl rfl ⟨Nat.le_of_ble_eq_true rfl, Nat.le_of_ble_eq_true rfl⟩ hk0.1 (by simp) rfl rfl rfl hl.1 rfl (Nat.le_of_ble_eq_true rfl) (dc tbX4_readText_0_k 39 rfl) ⟨Nat.le_of_ble_eq_true rfl, Nat.le_of_ble_eq_true rfl⟩ (fun H locs hI => ?_)
        refine lv_aload_n hx hb (dc tbX4_readText_1_k 0 rfl) rfl (lv_at hl 0 rfl) ?_
        obtain ⟨M28, r27, q26, hf⟩ := cal_s hf
        refine g_callVv hx hb hml hown hts hK hap hsx hI (tX4_nextToken l hk0 q26 H.size) cv_X4_nextToken q_t5_114 rfl rfl ⟨Nat.le_of_ble_eq_true rfl, Nat.le_of_ble_eq_true rfl⟩ hk0.1 (by simp) rfl rfl rfl hl.1 rfl (Nat.le_of_ble_eq_true rfl) (dc tbX4_readText_1_k 1 rfl) ⟨Nat.le_of_ble_eq_true rfl, Nat.le_of_ble_eq_true rfl⟩ (fun H locs hI => ?_)
        obtain ⟨x4_78, e29, hf⟩ := bnd_s hf
        refine lv_iinc (v := x4_78) (lv' := [(4, .int x4_78), (0, .ref (ad k0)), (3, .ref (ad k2))]) hx hb (dc tbX4_readText_1_k 2 rfl) hl (k := 2) rfl (ii_e e29 ic_1) (by decide) rfl (fun ls hl => ?_)
        refine lv_goto (tgt := 47) hx hb (dc tbX4_readText_1_k 3 rfl) rfl ?_
        exact hih47 x4_78 M28 hf _ _ _ hI (lv_sub hl [1, 2, 0] rfl)
def mX4_readText_l47 (k0 : Nat) (k1 : Nat) (k2 : Nat) : Nat → Int32 → Mem → Option (Mem × Int32)
  | 0 => fun _ _ => none
  | n + 1 => mX4_readText_b47 k0 k1 k2 (mX4_readText_l47 k0 k1 k2 n)
theorem tX4_readText_l47 {p : Program} {l : Launch} {e : Env} {s : State} {m : MethodId} {args : Array Value} {below : List Frame} {meth : Method} {c : Code} {G : GT} {kd : Nat → Nat × Nat} {ad : Nat → Nat} (C : Cx p s m args meth c cX4_readText 5 (some .boolean) RX4 G kd ad) {k0 : Nat} {k1 : Nat} {k2 : Nat} (hk0 : kReader kd k0) (hk1 : kd k1 = (11, 600)) (hk2 : kPart kd k2) {MO : Mem} {vo : Int32}   : ∀ (fuel : Nat) (x4 : Int32) (M : Mem), mX4_readText_l47 k0 k1 k2 fuel x4 M = some (MO, vo) → At p l e (rmO 7 0 0) s m args below meth c 0 0 (MQ below (Qg G kd ad s.heap.size MO (some (.int vo))) args s 0 0 (AS kd ad s.heap.size)) G kd ad 5 47 [(0, .ref (ad k0)), (3, .ref (ad k2)), (4, .int x4)] [] M := by
  intro fuel
  induction fuel with
  | zero => intro x4 M hf; cases hf
  | succ n IH => exact tX4_readText_b47 C hk0 hk1 hk2 IH
def mX4_readText_b18 (k0 : Nat) (k1 : Nat) (k2 : Nat) (y1 : Int32) (M : Mem) : Option (Mem × Int32) := bnd (wr M k0 3 y1) (fun M5 => bnd (wr M5 k0 5 (0 : Int32)) (fun M7 => bnd (wr M7 k0 0 (0 : Int32)) (fun M9 => bnd (wr M9 k0 1 (-1 : Int32)) (fun M11 => cal (mX1_clear k2 M11) (fun M15 _ => cal (mX4_nextToken k0 M15) (fun M18 _ => mX4_readText_l47 k0 k1 k2 5000 (0 : Int32) M18))))))
set_option maxHeartbeats 4000000 in
set_option maxRecDepth 100000 in
theorem tX4_readText_b18 {p : Program} {l : Launch} {e : Env} {s : State} {m : MethodId} {args : Array Value} {below : List Frame} {meth : Method} {c : Code} {G : GT} {kd : Nat → Nat × Nat} {ad : Nat → Nat} (C : Cx p s m args meth c cX4_readText 5 (some .boolean) RX4 G kd ad) {k0 : Nat} {k1 : Nat} {k2 : Nat} (hk0 : kReader kd k0) (hk1 : kd k1 = (11, 600)) (hk2 : kPart kd k2) {MO : Mem} {vo : Int32}   : ∀ (y1 : Int32) (M : Mem), mX4_readText_b18 k0 k1 k2 y1 M = some (MO, vo) → At p l e (rmO 7 0 0) s m args below meth c 0 0 (MQ below (Qg G kd ad s.heap.size MO (some (.int vo))) args s 0 0 (AS kd ad s.heap.size)) G kd ad 5 18 [(0, .ref (ad k0)), (3, .ref (ad k2))] [.int y1, .ref (ad k0)] M := by
  intro y1 M hf H locs ls hI hl
  obtain ⟨hx, hb, hml, hr, hown, hts, hlk, hK, hap, hsx⟩ := id C
  unfold mX4_readText_b18 at hf
  obtain ⟨M5, e6, hf⟩ := bnd_s hf
  refine gp4_3 hx hb hts hown hK hap hI hk0.1 q_t1_48 (dc tbX4_readText_0_k 12 rfl) e6 (fun H locs hI => ?_)
  refine lv_aload_n hx hb (dc tbX4_readText_0_k 13 rfl) rfl (lv_at hl 0 rfl) ?_
  refine lv_iconst (v := 0) hx hb (dc tbX4_readText_0_k 14 rfl) ic_0 ?_
  obtain ⟨M7, e8, hf⟩ := bnd_s hf
  refine gp4_5 hx hb hts hown hK hap hI hk0.1 q_t1_50 (dc tbX4_readText_0_k 15 rfl) e8 (fun H locs hI => ?_)
  refine lv_aload_n hx hb (dc tbX4_readText_0_k 16 rfl) rfl (lv_at hl 0 rfl) ?_
  refine lv_iconst (v := 0) hx hb (dc tbX4_readText_0_k 17 rfl) ic_0 ?_
  obtain ⟨M9, e10, hf⟩ := bnd_s hf
  refine gp4_0 hx hb hts hown hK hap hI hk0.1 q_t1_43 (dc tbX4_readText_0_k 18 rfl) e10 (fun H locs hI => ?_)
  refine lv_aload_n hx hb (dc tbX4_readText_0_k 19 rfl) rfl (lv_at hl 0 rfl) ?_
  refine lv_iconst (v := -1) hx hb (dc tbX4_readText_0_k 20 rfl) ic_m1 ?_
  obtain ⟨M11, e12, hf⟩ := bnd_s hf
  refine gp4_1 hx hb hts hown hK hap hI hk0.1 q_t1_45 (dc tbX4_readText_0_k 21 rfl) e12 (fun H locs hI => ?_)
  refine lv_aload_n hx hb (dc tbX4_readText_0_k 22 rfl) rfl (lv_at hl 1 rfl) ?_
  obtain ⟨M15, r14, q13, hf⟩ := cal_s hf
  refine g_callVv hx hb hml hown hts hK hap hsx hI (tX1_clear l hk2 q13 H.size) cv_X1_clear q_t5_113 rfl rfl ⟨Nat.le_of_ble_eq_true rfl, Nat.le_of_ble_eq_true rfl⟩ hk2.1 (by simp) rfl rfl rfl hl.1 rfl (Nat.le_of_ble_eq_true rfl) (dc tbX4_readText_0_k 23 rfl) ⟨Nat.le_of_ble_eq_true rfl, Nat.le_of_ble_eq_true rfl⟩ (fun H locs hI => ?_)
  refine lv_aload_n hx hb (dc tbX4_readText_0_k 24 rfl) rfl (lv_at hl 0 rfl) ?_
  obtain ⟨M18, r17, q16, hf⟩ := cal_s hf
  refine g_callVv hx hb hml hown hts hK hap hsx hI (tX4_nextToken l hk0 q16 H.size) cv_X4_nextToken q_t5_114 rfl rfl ⟨Nat.le_of_ble_eq_true rfl, Nat.le_of_ble_eq_true rfl⟩ hk0.1 (by simp) rfl rfl rfl hl.1 rfl (Nat.le_of_ble_eq_true rfl) (dc tbX4_readText_0_k 25 rfl) ⟨Nat.le_of_ble_eq_true rfl, Nat.le_of_ble_eq_true rfl⟩ (fun H locs hI => ?_)
  refine lv_iconst (v := 0) hx hb (dc tbX4_readText_0_k 26 rfl) ic_0 ?_
  refine lv_istore (lv' := [(4, .int (0 : Int32)), (0, .ref (ad k0)), (3, .ref (ad k2))]) hx hb (dc tbX4_readText_0_k 27 rfl) hl (by decide) rfl (fun ls hl => ?_)
  exact tX4_readText_l47 C hk0 hk1 hk2 5000 (0 : Int32) M18 hf _ _ _ hI (lv_sub hl [1, 2, 0] rfl)
def mX4_readText (k0 : Nat) (k1 : Nat) (k2 : Nat) (x2 : Int32) (M : Mem) : Option (Mem × Int32) := chk (decide (k1 = 1)) (bnd (wr M k0 2 1) (fun M1 => ite2 ((600 : Int32) < x2) (mX4_readText_b18 k0 k1 k2 (600 : Int32) M1) (mX4_readText_b18 k0 k1 k2 x2 M1)))
set_option maxHeartbeats 4000000 in
set_option maxRecDepth 100000 in
theorem tX4_readText (l : Launch) {G : GT} {kd : Nat → Nat × Nat} {ad : Nat → Nat} {k0 : Nat} {k1 : Nat} {k2 : Nat} (hk0 : kReader kd k0) (hk1 : kd k1 = (11, 600)) (hk2 : kPart kd k2) {x2 : Int32} {M : Mem} {MO : Mem} {vo : Int32} (hf : mX4_readText k0 k1 k2 x2 M = some (MO, vo)) (n : Nat) : Met l yX4_readText (Cond.code yX4_readText cX4_readText 5 (some .boolean) :: WA) (rmO 7 0 0) (Pg G kd ad n [.ref (ad k0), .ref (ad k1), .int x2, .ref (ad k2)] M) (Qg G kd ad n MO (some (.int vo))) 0 0 (AS kd ad n) := by
  refine g_body (own := RX4) (by decide) rfl ?_ (Nat.le_of_ble_eq_true rfl)
  intro p e s m args below meth c C _ H locs ls hI hl
  obtain ⟨hx, hb, hml, hr, hown, hts, hlk, hK, hap, hsx⟩ := id C
  have hl : lv_has ls 5 [(0, .ref (ad k0)), (1, .ref (ad k1)), (2, .int x2), (3, .ref (ad k2))] := hl
  unfold mX4_readText at hf
  refine lv_aload_n hx hb (dc tbX4_readText_0_k 0 rfl) rfl (lv_at hl 0 rfl) ?_
  refine lv_aload_n hx hb (dc tbX4_readText_0_k 1 rfl) rfl (lv_at hl 1 rfl) ?_
  obtain ⟨h3, hf⟩ := chk_s hf
  obtain ⟨M1, e2, hf⟩ := bnd_s hf
  refine gp4_2 hx hb hts hown hK hap hI hk0.1 q_t1_47 (dc tbX4_readText_0_k 2 rfl) (of_decide_eq_true h3) e2 (fun H locs hI => ?_)
  refine lv_aload_n hx hb (dc tbX4_readText_0_k 3 rfl) rfl (lv_at hl 0 rfl) ?_
  refine lv_iload_n hx hb (dc tbX4_readText_0_k 4 rfl) rfl (lv_at hl 2 rfl) ?_
  refine lv_aload_n hx hb (dc tbX4_readText_0_k 5 rfl) rfl (lv_at hl 1 rfl) ?_
  refine g_alenB hx hb hK hI hk1 (v := 600) (by decide) (dc tbX4_readText_0_k 6 rfl) ?_
  refine lv_icmp_gt (tgt := 16) hx hb (dc tbX4_readText_0_k 7 rfl) rfl (fun c4 => ?_) (fun c4 => ?_)
  · have hf := ite_t c4 hf
    refine lv_aload_n hx hb (dc tbX4_readText_0_k 10 rfl) rfl (lv_at hl 1 rfl) ?_
    refine g_alenB hx hb hK hI hk1 (v := 600) (by decide) (dc tbX4_readText_0_k 11 rfl) ?_
    exact tX4_readText_b18 C hk0 hk1 hk2 (600 : Int32) M1 hf _ _ _ hI (lv_sub hl [0, 3] rfl)
  · have hf := ite_f c4 hf
    refine lv_iload_n hx hb (dc tbX4_readText_0_k 8 rfl) rfl (lv_at hl 2 rfl) ?_
    refine lv_goto (tgt := 18) hx hb (dc tbX4_readText_0_k 9 rfl) rfl ?_
    exact tX4_readText_b18 C hk0 hk1 hk2 x2 M1 hf _ _ _ hI (lv_sub hl [0, 3] rfl)
theorem cv_X4_readText : cvF RX4 yX4_readText cX4_readText 5 (some .boolean) 3 := ⟨q_t5_110, q_t5_111, q_t1_2, q_t5_112, by decide +kernel⟩
end
